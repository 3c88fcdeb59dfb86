theorem kw_J6_bitCount_0f7a4_1 : (.constant RJ6 265 (1431655765) : Cond) ∈ wsJ6_bitCount_0f7a4 := List.mem_of_getElem? (i := 1) rfl
theorem kw_J6_bitCount_0f7a4_2 : (.constant RJ6 266 (858993459) : Cond) ∈ wsJ6_bitCount_0f7a4 := List.mem_of_getElem? (i := 2) rfl
theorem kw_J6_bitCount_0f7a4_3 : (.constant RJ6 267 (252645135) : Cond) ∈ wsJ6_bitCount_0f7a4 := List.mem_of_getElem? (i := 3) rfl
abbrev rm_J6_bitCount_0f7a4 : Room := { frames := 0, cells := 0, slots := 0, locals := 0 }
set_option maxHeartbeats 4000000 in
set_option maxRecDepth 100000 in
theorem c_J6_bitCount_0f7a4 (l : Launch) (D : va_G) (cyI cyZ cyT : ClassId) (a0 : Int32) (o : Int32) (hf : f_J6_bitCount_0f7a4 a0 = some o) : Met l yJ6_bitCount_0f7a4 wsJ6_bitCount_0f7a4 rm_J6_bitCount_0f7a4 (va_Pc [.int a0] (jB D cyI cyZ cyT ([]))) (jSi o) 0 0 (fun _ => False) := by
  refine Met.ofW (cc := cJ6_bitCount_0f7a4) (maxL := 1) (ret := (some .int)) (by decide) rfl ?_
  intro p e s m args below meth c s₁ B hml hv
  obtain ⟨rfl, hP, hK⟩ := hv
  have hx := B.exec
  have hb := B.bytes
  have hr := B.returns
  have hts := atoms_spec (ws := wsJ6_bitCount_0f7a4) B.pre
  have hown : s.vm.findClass RJ6 = some m.cls := findClass_of_methodNamed B.named
  have hlocks := B.notSynchronized
  have hl := lv_entry ([.int a0]) (n := 1) (Nat.le_of_ble_eq_true rfl)
  rw [lg_entry_eq]
  generalize (lg_sl ([.int a0]) ++ List.replicate (1 - (lg_sl ([.int a0])).length) Slot.unset).toArray = ls at hl ⊢
  have hl : lv_has ls 1 [(0, .int a0)] := hl
  clear B
  generalize ([.int a0] : List Value).toArray = args at hts ⊢
  have key : ∀ (H : Heap), va_P D vwCl ([]) H → H = s.heap → W p l e rm_J6_bitCount_0f7a4 s m args below meth c H [] 0 0 (MQ below (jSi o) args s 0 0 (fun _ => False)) (F0 m 0 ls []) := by
    intro H hP hH
    have h := hf
    unfold f_J6_bitCount_0f7a4 at h
    refine lv_iload_n hx hb dJ6_bitCount_0f7a4_0 rfl (lv_at hl 0 rfl) ?_
    refine lv_iload_n hx hb dJ6_bitCount_0f7a4_1 rfl (lv_at hl 0 rfl) ?_
    refine lv_iconst (v := (1 : Int32)) hx hb dJ6_bitCount_0f7a4_2 (by decide) ?_
    refine lv_iushr (v := (a0.toUInt32 >>> ((1 : Int32).toUInt32 &&& Int32.toUInt32 31)).toInt32) hx hb dJ6_bitCount_0f7a4_3 rfl ?_
    refine lv_ldcw (v := (1431655765 : Int32)) hx hb hown (hts _ kw_J6_bitCount_0f7a4_1) dJ6_bitCount_0f7a4_4 ?_
    refine lv_iand hx hb dJ6_bitCount_0f7a4_7 ?_
    refine lv_isub hx hb dJ6_bitCount_0f7a4_8 ?_
    refine lv_istore_n (lv' := [(0, .int (a0 - (((a0.toUInt32 >>> ((1 : Int32).toUInt32 &&& Int32.toUInt32 31)).toInt32) &&& (1431655765 : Int32))))]) hx hb dJ6_bitCount_0f7a4_9 rfl hl (by decide) rfl (fun ls hl => ?_)
    refine lv_iload_n hx hb dJ6_bitCount_0f7a4_10 rfl (lv_at hl 0 rfl) ?_
    refine lv_ldcw (v := (858993459 : Int32)) hx hb hown (hts _ kw_J6_bitCount_0f7a4_2) dJ6_bitCount_0f7a4_11 ?_
    refine lv_iand hx hb dJ6_bitCount_0f7a4_14 ?_
    refine lv_iload_n hx hb dJ6_bitCount_0f7a4_15 rfl (lv_at hl 0 rfl) ?_
    refine lv_iconst (v := (2 : Int32)) hx hb dJ6_bitCount_0f7a4_16 (by decide) ?_
    refine lv_iushr (v := ((a0 - (((a0.toUInt32 >>> ((1 : Int32).toUInt32 &&& Int32.toUInt32 31)).toInt32) &&& (1431655765 : Int32))).toUInt32 >>> ((2 : Int32).toUInt32 &&& Int32.toUInt32 31)).toInt32) hx hb dJ6_bitCount_0f7a4_17 rfl ?_
    refine lv_ldcw (v := (858993459 : Int32)) hx hb hown (hts _ kw_J6_bitCount_0f7a4_2) dJ6_bitCount_0f7a4_18 ?_
    refine lv_iand hx hb dJ6_bitCount_0f7a4_21 ?_
    refine lv_iadd hx hb dJ6_bitCount_0f7a4_22 ?_
    refine lv_istore_n (lv' := [(0, .int (((a0 - (((a0.toUInt32 >>> ((1 : Int32).toUInt32 &&& Int32.toUInt32 31)).toInt32) &&& (1431655765 : Int32))) &&& (858993459 : Int32)) + ((((a0 - (((a0.toUInt32 >>> ((1 : Int32).toUInt32 &&& Int32.toUInt32 31)).toInt32) &&& (1431655765 : Int32))).toUInt32 >>> ((2 : Int32).toUInt32 &&& Int32.toUInt32 31)).toInt32) &&& (858993459 : Int32))))]) hx hb dJ6_bitCount_0f7a4_23 rfl hl (by decide) rfl (fun ls hl => ?_)
    refine lv_iload_n hx hb dJ6_bitCount_0f7a4_24 rfl (lv_at hl 0 rfl) ?_
    refine lv_iload_n hx hb dJ6_bitCount_0f7a4_25 rfl (lv_at hl 0 rfl) ?_
    refine lv_iconst (v := (4 : Int32)) hx hb dJ6_bitCount_0f7a4_26 (by decide) ?_
    refine lv_iushr (v := ((((a0 - (((a0.toUInt32 >>> ((1 : Int32).toUInt32 &&& Int32.toUInt32 31)).toInt32) &&& (1431655765 : Int32))) &&& (858993459 : Int32)) + ((((a0 - (((a0.toUInt32 >>> ((1 : Int32).toUInt32 &&& Int32.toUInt32 31)).toInt32) &&& (1431655765 : Int32))).toUInt32 >>> ((2 : Int32).toUInt32 &&& Int32.toUInt32 31)).toInt32) &&& (858993459 : Int32))).toUInt32 >>> ((4 : Int32).toUInt32 &&& Int32.toUInt32 31)).toInt32) hx hb dJ6_bitCount_0f7a4_27 rfl ?_
    refine lv_iadd hx hb dJ6_bitCount_0f7a4_28 ?_
    refine lv_ldcw (v := (252645135 : Int32)) hx hb hown (hts _ kw_J6_bitCount_0f7a4_3) dJ6_bitCount_0f7a4_29 ?_
    refine lv_iand hx hb dJ6_bitCount_0f7a4_32 ?_
    refine lv_istore_n (lv' := [(0, .int (((((a0 - (((a0.toUInt32 >>> ((1 : Int32).toUInt32 &&& Int32.toUInt32 31)).toInt32) &&& (1431655765 : Int32))) &&& (858993459 : Int32)) + ((((a0 - (((a0.toUInt32 >>> ((1 : Int32).toUInt32 &&& Int32.toUInt32 31)).toInt32) &&& (1431655765 : Int32))).toUInt32 >>> ((2 : Int32).toUInt32 &&& Int32.toUInt32 31)).toInt32) &&& (858993459 : Int32))) + (((((a0 - (((a0.toUInt32 >>> ((1 : Int32).toUInt32 &&& Int32.toUInt32 31)).toInt32) &&& (1431655765 : Int32))) &&& (858993459 : Int32)) + ((((a0 - (((a0.toUInt32 >>> ((1 : Int32).toUInt32 &&& Int32.toUInt32 31)).toInt32) &&& (1431655765 : Int32))).toUInt32 >>> ((2 : Int32).toUInt32 &&& Int32.toUInt32 31)).toInt32) &&& (858993459 : Int32))).toUInt32 >>> ((4 : Int32).toUInt32 &&& Int32.toUInt32 31)).toInt32)) &&& (252645135 : Int32)))]) hx hb dJ6_bitCount_0f7a4_33 rfl hl (by decide) rfl (fun ls hl => ?_)
    refine lv_iload_n hx hb dJ6_bitCount_0f7a4_34 rfl (lv_at hl 0 rfl) ?_
    refine lv_iload_n hx hb dJ6_bitCount_0f7a4_35 rfl (lv_at hl 0 rfl) ?_
    refine lv_bipush (v := (8 : Int32)) hx hb dJ6_bitCount_0f7a4_36 (by decide) ?_
    refine lv_iushr (v := ((((((a0 - (((a0.toUInt32 >>> ((1 : Int32).toUInt32 &&& Int32.toUInt32 31)).toInt32) &&& (1431655765 : Int32))) &&& (858993459 : Int32)) + ((((a0 - (((a0.toUInt32 >>> ((1 : Int32).toUInt32 &&& Int32.toUInt32 31)).toInt32) &&& (1431655765 : Int32))).toUInt32 >>> ((2 : Int32).toUInt32 &&& Int32.toUInt32 31)).toInt32) &&& (858993459 : Int32))) + (((((a0 - (((a0.toUInt32 >>> ((1 : Int32).toUInt32 &&& Int32.toUInt32 31)).toInt32) &&& (1431655765 : Int32))) &&& (858993459 : Int32)) + ((((a0 - (((a0.toUInt32 >>> ((1 : Int32).toUInt32 &&& Int32.toUInt32 31)).toInt32) &&& (1431655765 : Int32))).toUInt32 >>> ((2 : Int32).toUInt32 &&& Int32.toUInt32 31)).toInt32) &&& (858993459 : Int32))).toUInt32 >>> ((4 : Int32).toUInt32 &&& Int32.toUInt32 31)).toInt32)) &&& (252645135 : Int32)).toUInt32 >>> ((8 : Int32).toUInt32 &&& Int32.toUInt32 31)).toInt32) hx hb dJ6_bitCount_0f7a4_38 rfl ?_
    refine lv_iadd hx hb dJ6_bitCount_0f7a4_39 ?_
    refine lv_istore_n (lv' := [(0, .int ((((((a0 - (((a0.toUInt32 >>> ((1 : Int32).toUInt32 &&& Int32.toUInt32 31)).toInt32) &&& (1431655765 : Int32))) &&& (858993459 : Int32)) + ((((a0 - (((a0.toUInt32 >>> ((1 : Int32).toUInt32 &&& Int32.toUInt32 31)).toInt32) &&& (1431655765 : Int32))).toUInt32 >>> ((2 : Int32).toUInt32 &&& Int32.toUInt32 31)).toInt32) &&& (858993459 : Int32))) + (((((a0 - (((a0.toUInt32 >>> ((1 : Int32).toUInt32 &&& Int32.toUInt32 31)).toInt32) &&& (1431655765 : Int32))) &&& (858993459 : Int32)) + ((((a0 - (((a0.toUInt32 >>> ((1 : Int32).toUInt32 &&& Int32.toUInt32 31)).toInt32) &&& (1431655765 : Int32))).toUInt32 >>> ((2 : Int32).toUInt32 &&& Int32.toUInt32 31)).toInt32) &&& (858993459 : Int32))).toUInt32 >>> ((4 : Int32).toUInt32 &&& Int32.toUInt32 31)).toInt32)) &&& (252645135 : Int32)) + (((((((a0 - (((a0.toUInt32 >>> ((1 : Int32).toUInt32 &&& Int32.toUInt32 31)).toInt32) &&& (1431655765 : Int32))) &&& (858993459 : Int32)) + ((((a0 - (((a0.toUInt32 >>> ((1 : Int32).toUInt32 &&& Int32.toUInt32 31)).toInt32) &&& (1431655765 : Int32))).toUInt32 >>> ((2 : Int32).toUInt32 &&& Int32.toUInt32 31)).toInt32) &&& (858993459 : Int32))) + (((((a0 - (((a0.toUInt32 >>> ((1 : Int32).toUInt32 &&& Int32.toUInt32 31)).toInt32) &&& (1431655765 : Int32))) &&& (858993459 : Int32)) + ((((a0 - (((a0.toUInt32 >>> ((1 : Int32).toUInt32 &&& Int32.toUInt32 31)).toInt32) &&& (1431655765 : Int32))).toUInt32 >>> ((2 : Int32).toUInt32 &&& Int32.toUInt32 31)).toInt32) &&& (858993459 : Int32))).toUInt32 >>> ((4 : Int32).toUInt32 &&& Int32.toUInt32 31)).toInt32)) &&& (252645135 : Int32)).toUInt32 >>> ((8 : Int32).toUInt32 &&& Int32.toUInt32 31)).toInt32)))]) hx hb dJ6_bitCount_0f7a4_40 rfl hl (by decide) rfl (fun ls hl => ?_)
    refine lv_iload_n hx hb dJ6_bitCount_0f7a4_41 rfl (lv_at hl 0 rfl) ?_
    refine lv_iload_n hx hb dJ6_bitCount_0f7a4_42 rfl (lv_at hl 0 rfl) ?_
    refine lv_bipush (v := (16 : Int32)) hx hb dJ6_bitCount_0f7a4_43 (by decide) ?_
    refine lv_iushr (v := (((((((a0 - (((a0.toUInt32 >>> ((1 : Int32).toUInt32 &&& Int32.toUInt32 31)).toInt32) &&& (1431655765 : Int32))) &&& (858993459 : Int32)) + ((((a0 - (((a0.toUInt32 >>> ((1 : Int32).toUInt32 &&& Int32.toUInt32 31)).toInt32) &&& (1431655765 : Int32))).toUInt32 >>> ((2 : Int32).toUInt32 &&& Int32.toUInt32 31)).toInt32) &&& (858993459 : Int32))) + (((((a0 - (((a0.toUInt32 >>> ((1 : Int32).toUInt32 &&& Int32.toUInt32 31)).toInt32) &&& (1431655765 : Int32))) &&& (858993459 : Int32)) + ((((a0 - (((a0.toUInt32 >>> ((1 : Int32).toUInt32 &&& Int32.toUInt32 31)).toInt32) &&& (1431655765 : Int32))).toUInt32 >>> ((2 : Int32).toUInt32 &&& Int32.toUInt32 31)).toInt32) &&& (858993459 : Int32))).toUInt32 >>> ((4 : Int32).toUInt32 &&& Int32.toUInt32 31)).toInt32)) &&& (252645135 : Int32)) + (((((((a0 - (((a0.toUInt32 >>> ((1 : Int32).toUInt32 &&& Int32.toUInt32 31)).toInt32) &&& (1431655765 : Int32))) &&& (858993459 : Int32)) + ((((a0 - (((a0.toUInt32 >>> ((1 : Int32).toUInt32 &&& Int32.toUInt32 31)).toInt32) &&& (1431655765 : Int32))).toUInt32 >>> ((2 : Int32).toUInt32 &&& Int32.toUInt32 31)).toInt32) &&& (858993459 : Int32))) + (((((a0 - (((a0.toUInt32 >>> ((1 : Int32).toUInt32 &&& Int32.toUInt32 31)).toInt32) &&& (1431655765 : Int32))) &&& (858993459 : Int32)) + ((((a0 - (((a0.toUInt32 >>> ((1 : Int32).toUInt32 &&& Int32.toUInt32 31)).toInt32) &&& (1431655765 : Int32))).toUInt32 >>> ((2 : Int32).toUInt32 &&& Int32.toUInt32 31)).toInt32) &&& (858993459 : Int32))).toUInt32 >>> ((4 : Int32).toUInt32 &&& Int32.toUInt32 31)).toInt32)) &&& (252645135 : Int32)).toUInt32 >>> ((8 : Int32).toUInt32 &&& Int32.toUInt32 31)).toInt32)).toUInt32 >>> ((16 : Int32).toUInt32 &&& Int32.toUInt32 31)).toInt32) hx hb dJ6_bitCount_0f7a4_45 rfl ?_
    refine lv_iadd hx hb dJ6_bitCount_0f7a4_46 ?_
    refine lv_istore_n (lv' := [(0, .int (((((((a0 - (((a0.toUInt32 >>> ((1 : Int32).toUInt32 &&& Int32.toUInt32 31)).toInt32) &&& (1431655765 : Int32))) &&& (858993459 : Int32)) + ((((a0 - (((a0.toUInt32 >>> ((1 : Int32).toUInt32 &&& Int32.toUInt32 31)).toInt32) &&& (1431655765 : Int32))).toUInt32 >>> ((2 : Int32).toUInt32 &&& Int32.toUInt32 31)).toInt32) &&& (858993459 : Int32))) + (((((a0 - (((a0.toUInt32 >>> ((1 : Int32).toUInt32 &&& Int32.toUInt32 31)).toInt32) &&& (1431655765 : Int32))) &&& (858993459 : Int32)) + ((((a0 - (((a0.toUInt32 >>> ((1 : Int32).toUInt32 &&& Int32.toUInt32 31)).toInt32) &&& (1431655765 : Int32))).toUInt32 >>> ((2 : Int32).toUInt32 &&& Int32.toUInt32 31)).toInt32) &&& (858993459 : Int32))).toUInt32 >>> ((4 : Int32).toUInt32 &&& Int32.toUInt32 31)).toInt32)) &&& (252645135 : Int32)) + (((((((a0 - (((a0.toUInt32 >>> ((1 : Int32).toUInt32 &&& Int32.toUInt32 31)).toInt32) &&& (1431655765 : Int32))) &&& (858993459 : Int32)) + ((((a0 - (((a0.toUInt32 >>> ((1 : Int32).toUInt32 &&& Int32.toUInt32 31)).toInt32) &&& (1431655765 : Int32))).toUInt32 >>> ((2 : Int32).toUInt32 &&& Int32.toUInt32 31)).toInt32) &&& (858993459 : Int32))) + (((((a0 - (((a0.toUInt32 >>> ((1 : Int32).toUInt32 &&& Int32.toUInt32 31)).toInt32) &&& (1431655765 : Int32))) &&& (858993459 : Int32)) + ((((a0 - (((a0.toUInt32 >>> ((1 : Int32).toUInt32 &&& Int32.toUInt32 31)).toInt32) &&& (1431655765 : Int32))).toUInt32 >>> ((2 : Int32).toUInt32 &&& Int32.toUInt32 31)).toInt32) &&& (858993459 : Int32))).toUInt32 >>> ((4 : Int32).toUInt32 &&& Int32.toUInt32 31)).toInt32)) &&& (252645135 : Int32)).toUInt32 >>> ((8 : Int32).toUInt32 &&& Int32.toUInt32 31)).toInt32)) + ((((((((a0 - (((a0.toUInt32 >>> ((1 : Int32).toUInt32 &&& Int32.toUInt32 31)).toInt32) &&& (1431655765 : Int32))) &&& (858993459 : Int32)) + ((((a0 - (((a0.toUInt32 >>> ((1 : Int32).toUInt32 &&& Int32.toUInt32 31)).toInt32) &&& (1431655765 : Int32))).toUInt32 >>> ((2 : Int32).toUInt32 &&& Int32.toUInt32 31)).toInt32) &&& (858993459 : Int32))) + (((((a0 - (((a0.toUInt32 >>> ((1 : Int32).toUInt32 &&& Int32.toUInt32 31)).toInt32) &&& (1431655765 : Int32))) &&& (858993459 : Int32)) + ((((a0 - (((a0.toUInt32 >>> ((1 : Int32).toUInt32 &&& Int32.toUInt32 31)).toInt32) &&& (1431655765 : Int32))).toUInt32 >>> ((2 : Int32).toUInt32 &&& Int32.toUInt32 31)).toInt32) &&& (858993459 : Int32))).toUInt32 >>> ((4 : Int32).toUInt32 &&& Int32.toUInt32 31)).toInt32)) &&& (252645135 : Int32)) + (((((((a0 - (((a0.toUInt32 >>> ((1 : Int32).toUInt32 &&& Int32.toUInt32 31)).toInt32) &&& (1431655765 : Int32))) &&& (858993459 : Int32)) + ((((a0 - (((a0.toUInt32 >>> ((1 : Int32).toUInt32 &&& Int32.toUInt32 31)).toInt32) &&& (1431655765 : Int32))).toUInt32 >>> ((2 : Int32).toUInt32 &&& Int32.toUInt32 31)).toInt32) &&& (858993459 : Int32))) + (((((a0 - (((a0.toUInt32 >>> ((1 : Int32).toUInt32 &&& Int32.toUInt32 31)).toInt32) &&& (1431655765 : Int32))) &&& (858993459 : Int32)) + ((((a0 - (((a0.toUInt32 >>> ((1 : Int32).toUInt32 &&& Int32.toUInt32 31)).toInt32) &&& (1431655765 : Int32))).toUInt32 >>> ((2 : Int32).toUInt32 &&& Int32.toUInt32 31)).toInt32) &&& (858993459 : Int32))).toUInt32 >>> ((4 : Int32).toUInt32 &&& Int32.toUInt32 31)).toInt32)) &&& (252645135 : Int32)).toUInt32 >>> ((8 : Int32).toUInt32 &&& Int32.toUInt32 31)).toInt32)).toUInt32 >>> ((16 : Int32).toUInt32 &&& Int32.toUInt32 31)).toInt32)))]) hx hb dJ6_bitCount_0f7a4_47 rfl hl (by decide) rfl (fun ls hl => ?_)
    refine lv_iload_n hx hb dJ6_bitCount_0f7a4_48 rfl (lv_at hl 0 rfl) ?_
    refine lv_bipush (v := (63 : Int32)) hx hb dJ6_bitCount_0f7a4_49 (by decide) ?_
    refine lv_iand hx hb dJ6_bitCount_0f7a4_51 ?_
    exact W.iret hx hb hr (fun t ht _ => ⟨_, rfl, Option.some.inj h, ht.trans hH⟩) (fun q h => by cases h) dJ6_bitCount_0f7a4_52 hlocks
  exact key s.heap hP rfl
abbrev rm_J7_fill_53178 : Room := { frames := 0, cells := 0, slots := 0, locals := 0 }
set_option maxHeartbeats 4000000 in
set_option maxRecDepth 100000 in
theorem c_J7_fill_53178 (l : Launch) (D : va_G) (cyI cyZ cyT : ClassId) (qa : Nat → Nat) (sz : Nat) (N : Nat) (a1 : Int32) (n : Nat) (var : Nat → Int32) (o : (Nat → Int32)) (hf : f_J7_fill_53178 N a1 n var = some o) : Met l yJ7_fill_53178 wsJ7_fill_53178 rm_J7_fill_53178 (va_Pc [.ref (qa 0), .int a1] (jM D cyI cyZ cyT (wA cyI qa n var) sz)) (jQv D (va_A (wA cyI qa n var) sz) (fun u : (Nat → Int32) => wA cyI qa n u) o) 0 0 (va_A (wA cyI qa n var) sz) := by
  refine Met.ofW (cc := cJ7_fill_53178) (maxL := 4) (ret := none) (by decide) rfl ?_
  intro p e s m args below meth c s₁ B hml hv
  obtain ⟨rfl, hsz, hP, hK, hD0⟩ := hv
  have hx := B.exec
  have hb := B.bytes
  have hr := B.returns
  have hts := atoms_spec (ws := wsJ7_fill_53178) B.pre
  have hown : s.vm.findClass RJ7 = some m.cls := findClass_of_methodNamed B.named
  have hlocks := B.notSynchronized
  subst hsz
  have hD := hD0.self (sz := s.heap.size)
  generalize hAe : va_A (wA cyI qa n var) s.heap.size = A at hD ⊢
  have hA : ∀ q : Nat, s.heap.size ≤ q → A q := fun q h => by rw [← hAe]; exact Or.inr h
  have hS : va_S A s.heap s.heap [] := va_S.rf
  have hl := lv_entry ([.ref (qa 0), .int a1]) (n := 4) (Nat.le_of_ble_eq_true rfl)
  rw [lg_entry_eq]
  generalize (lg_sl ([.ref (qa 0), .int a1]) ++ List.replicate (4 - (lg_sl ([.ref (qa 0), .int a1])).length) Slot.unset).toArray = ls at hl ⊢
  have hl : lv_has ls 4 [(0, .ref (qa 0)), (1, .int a1)] := hl
  clear B
  generalize ([.ref (qa 0), .int a1] : List Value).toArray = args at hts ⊢
  have key : ∀ (H : Heap) (locs : List Loc), va_P D vwCl (wA cyI qa n var) H → va_D A (wA cyI qa n var) → va_S A s.heap H locs → W p l e rm_J7_fill_53178 s m args below meth c H locs 0 0 (MQ below (jQv D A (fun u : (Nat → Int32) => wA cyI qa n u) o) args s 0 0 A) (F0 m 0 ls []) := by
    intro H locs hP hD hS
    have h := hf
    unfold f_J7_fill_53178 at h
    refine lv_iconst (v := (0 : Int32)) hx hb dJ7_fill_53178_0 (by decide) ?_
    refine lv_istore_n (lv' := [(2, .int (0 : Int32)), (0, .ref (qa 0)), (1, .int a1)]) hx hb dJ7_fill_53178_1 rfl hl (by decide) rfl (fun ls hl => ?_)
    refine lv_aload_n hx hb dJ7_fill_53178_2 rfl (lv_at hl 1 rfl) ?_
    refine va_alen (v := Int32.ofNat n) hx hb hK.1 hP 0 0 rfl rfl rfl dJ7_fill_53178_3 ?_
    refine lv_istore_n (lv' := [(3, .int (Int32.ofNat n)), (2, .int (0 : Int32)), (0, .ref (qa 0)), (1, .int a1)]) hx hb dJ7_fill_53178_4 rfl hl (by decide) rfl (fun ls hl => ?_)
    obtain ⟨r1, hz1, h1_⟩ := jb h
    have hex1 : ∀ e1 : (Nat → Int32), r1 = e1 → ∀ (H : Heap) (locs : List Loc), va_P D vwCl (wA cyI qa n e1) H → va_D A (wA cyI qa n e1) → va_S A s.heap H locs → ∀ (ls : Array Slot), lv_has ls 4 [] → W p l e rm_J7_fill_53178 s m args below meth c H locs 0 0 (MQ below (jQv D A (fun u : (Nat → Int32) => wA cyI qa n u) o) args s 0 0 A) (F0 m 20 ls []) := by
      intro e1 he H locs hP hD hS ls hl
      rw [he] at h1_
      have h := h1_
      clear hz1
      exact W.vret hx hb hr (fun t ht _ => ⟨⟨_, rfl, Option.some.inj h, by rw [ht]; exact hP, hD⟩, hS.F ht⟩) hS.2.2 dJ7_fill_53178_20 hlocks
    have hlp1 : ∀ (nn : Nat) (z1 : (Int32 × (Nat → Int32))), jw (J7_fill_53178_s5 a1 n) nn z1 = some r1 → ∀ (H : Heap) (locs : List Loc), va_P D vwCl (wA cyI qa n z1.2) H → va_D A (wA cyI qa n z1.2) → va_S A s.heap H locs → ∀ (ls : Array Slot), lv_has ls 4 [(0, .ref (qa 0)), (1, .int a1), (2, .int z1.1), (3, .int (Int32.ofNat n))] → W p l e rm_J7_fill_53178 s m args below meth c H locs 0 0 (MQ below (jQv D A (fun u : (Nat → Int32) => wA cyI qa n u) o) args s 0 0 A) (F0 m 5 ls []) := by
      refine jw_P (r := r1) (P := fun z1 : (Int32 × (Nat → Int32)) => ∀ (H : Heap) (locs : List Loc), va_P D vwCl (wA cyI qa n z1.2) H → va_D A (wA cyI qa n z1.2) → va_S A s.heap H locs → ∀ (ls : Array Slot), lv_has ls 4 [(0, .ref (qa 0)), (1, .int a1), (2, .int z1.1), (3, .int (Int32.ofNat n))] → W p l e rm_J7_fill_53178 s m args below meth c H locs 0 0 (MQ below (jQv D A (fun u : (Nat → Int32) => wA cyI qa n u) o) args s 0 0 A) (F0 m 5 ls [])) ?_
      intro z1 x1 h hin hout H locs hP hD hS ls hl
      unfold J7_fill_53178_s5 at h
      refine lv_iload_n hx hb dJ7_fill_53178_5 rfl (lv_at hl 2 rfl) ?_
      refine lv_iload_n hx hb dJ7_fill_53178_6 rfl (lv_at hl 3 rfl) ?_
      refine lv_icmp_ge (tgt := 20) hx hb dJ7_fill_53178_7 (by decide) (fun c2 => ?_) (fun c2 => ?_)
      · have h := jt c2 h
        exact hex1 _ (hout _ (Option.some.inj h).symm).symm H locs hP hD hS ls (lv_sub hl [] rfl)
      · have h := jf c2 h
        refine lv_aload_n hx hb dJ7_fill_53178_10 rfl (lv_at hl 0 rfl) ?_
        refine lv_iload_n hx hb dJ7_fill_53178_11 rfl (lv_at hl 2 rfl) ?_
        refine lv_iload_n hx hb dJ7_fill_53178_12 rfl (lv_at hl 1 rfl) ?_
        obtain ⟨g3, h⟩ := jn h
        refine jast (w' := wA cyI qa n (upd z1.2 z1.1.toNatClampNeg a1)) hx hb hK hP hD hS 0 rfl _ rfl g3 rfl dJ7_fill_53178_13 (fun H locs hP hD hS => ?_)
        refine lv_iinc (v := z1.1 + (1 : Int32)) (lv' := [(2, .int (z1.1 + (1 : Int32))), (0, .ref (qa 0)), (1, .int a1), (3, .int (Int32.ofNat n))]) hx hb dJ7_fill_53178_14 hl (k := 2) rfl rfl (by decide) rfl (fun ls hl => ?_)
        refine lv_goto (tgt := 5) hx hb dJ7_fill_53178_17 (by decide) ?_
        exact hin _ (Option.some.inj h).symm H locs hP hD hS ls (lv_sub hl [1, 2, 0, 3] rfl)
    exact hlp1 _ _ hz1 H locs hP hD hS ls (lv_sub hl [2, 3, 1, 0] rfl)
  exact key s.heap [] hP hD hS
theorem kw_X0_addMouse_1 : (.fieldLink RX0 40 "BellTheCat$House" "miceCount" "I" : Cond) ∈ wsX0_addMouse := List.mem_of_getElem? (i := 1) rfl
theorem kw_X0_addMouse_2 : (.fieldLink RX0 9 "BellTheCat$House" "kinds" "[I" : Cond) ∈ wsX0_addMouse := List.mem_of_getElem? (i := 2) rfl
theorem kw_X0_addMouse_3 : (.fieldLink RX0 15 "BellTheCat$House" "speeds" "[I" : Cond) ∈ wsX0_addMouse := List.mem_of_getElem? (i := 3) rfl
theorem kw_X0_addMouse_4 : (.fieldLink RX0 18 "BellTheCat$House" "fears" "[I" : Cond) ∈ wsX0_addMouse := List.mem_of_getElem? (i := 4) rfl
theorem kw_X0_addMouse_5 : (.fieldLink RX0 21 "BellTheCat$House" "tickets" "[I" : Cond) ∈ wsX0_addMouse := List.mem_of_getElem? (i := 5) rfl
theorem in_X0_addMouse_X0 : ∀ w ∈ wsX00, w ∈ wsX0_addMouse := fun w h => List.mem_cons_of_mem _ (List.mem_append_right _ h)
abbrev rm_X0_addMouse : Room := { frames := 0, cells := 0, slots := 0, locals := 0 }
set_option maxHeartbeats 4000000 in
set_option maxRecDepth 100000 in
theorem c_X0_addMouse (l : Launch) (D : va_G) (cyI cyZ cyT : ClassId) (qa : Nat → Nat) (sz : Nat) (a1 : Int32) (a2 : Int32) (a3 : Int32) (a4 : Int32) (vh : Mo) (o : Mo) (hf : f_X0_addMouse a1 a2 a3 a4 vh = some o) : Met l yX0_addMouse wsX0_addMouse rm_X0_addMouse (va_Pc [.ref (qa 0), .int a1, .int a2, .int a3, .int a4] (jM D cyI cyZ cyT (wH cyI qa vh) sz)) (jQv D (va_A (wH cyI qa vh) sz) (fun u : Mo => wH cyI qa u) o) 0 0 (va_A (wH cyI qa vh) sz) := by
  refine Met.ofW (cc := cX0_addMouse) (maxL := 5) (ret := none) (by decide) rfl ?_
  intro p e s m args below meth c s₁ B hml hv
  obtain ⟨rfl, hsz, hP, hK, hD0⟩ := hv
  have hx := B.exec
  have hb := B.bytes
  have hr := B.returns
  have hts := atoms_spec (ws := wsX0_addMouse) B.pre
  have hown : s.vm.findClass RX0 = some m.cls := findClass_of_methodNamed B.named
  have hlocks := B.notSynchronized
  subst hsz
  have hD := hD0.self (sz := s.heap.size)
  generalize hAe : va_A (wH cyI qa vh) s.heap.size = A at hD ⊢
  have hA : ∀ q : Nat, s.heap.size ≤ q → A q := fun q h => by rw [← hAe]; exact Or.inr h
  have hS : va_S A s.heap s.heap [] := va_S.rf
  have hl := lv_entry ([.ref (qa 0), .int a1, .int a2, .int a3, .int a4]) (n := 5) (Nat.le_of_ble_eq_true rfl)
  rw [lg_entry_eq]
  generalize (lg_sl ([.ref (qa 0), .int a1, .int a2, .int a3, .int a4]) ++ List.replicate (5 - (lg_sl ([.ref (qa 0), .int a1, .int a2, .int a3, .int a4])).length) Slot.unset).toArray = ls at hl ⊢
  have hl : lv_has ls 5 [(0, .ref (qa 0)), (1, .int a1), (2, .int a2), (3, .int a3), (4, .int a4)] := hl
  clear B
  generalize ([.ref (qa 0), .int a1, .int a2, .int a3, .int a4] : List Value).toArray = args at hts ⊢
  have key : ∀ (H : Heap) (locs : List Loc), va_P D vwCl (wH cyI qa vh) H → va_D A (wH cyI qa vh) → va_S A s.heap H locs → W p l e rm_X0_addMouse s m args below meth c H locs 0 0 (MQ below (jQv D A (fun u : Mo => wH cyI qa u) o) args s 0 0 A) (F0 m 0 ls []) := by
    intro H locs hP hD hS
    have h := hf
    unfold f_X0_addMouse at h
    refine lv_aload_n hx hb dX0_addMouse_0 rfl (lv_at hl 0 rfl) ?_
    refine va_get (D := D) (ci := 0) (v := .int (vh.2 0)) (C := RX0) (T := TX0) (N := 12) hx hb hts in_X0_addMouse_X0 hown hK.1 hP 0 rfl rfl 8 (by decide) (hts _ kw_X0_addMouse_1) (fun _ h9 => h9) rfl dX0_addMouse_1 ?_
    refine lv_bipush (v := (6 : Int32)) hx hb dX0_addMouse_4 (by decide) ?_
    refine lv_icmp_lt (tgt := 10) hx hb dX0_addMouse_6 (by decide) (fun c1 => ?_) (fun c1 => ?_)
    · have h := jt c1 h
      refine lv_aload_n hx hb dX0_addMouse_10 rfl (lv_at hl 0 rfl) ?_
      refine va_get (D := D) (ci := 0) (v := .ref (qa 1)) (C := RX0) (T := TX0) (N := 12) hx hb hts in_X0_addMouse_X0 hown hK.1 hP 0 rfl rfl 0 (by decide) (hts _ kw_X0_addMouse_2) (fun _ h9 => h9) rfl dX0_addMouse_11 ?_
      refine lv_aload_n hx hb dX0_addMouse_14 rfl (lv_at hl 0 rfl) ?_
      refine va_get (D := D) (ci := 0) (v := .int (vh.2 0)) (C := RX0) (T := TX0) (N := 12) hx hb hts in_X0_addMouse_X0 hown hK.1 hP 0 rfl rfl 8 (by decide) (hts _ kw_X0_addMouse_1) (fun _ h9 => h9) rfl dX0_addMouse_15 ?_
      refine lv_iload_n hx hb dX0_addMouse_18 rfl (lv_at hl 1 rfl) ?_
      obtain ⟨g2, h⟩ := jn h
      refine jast (w' := wH cyI qa (va_up vh.1 0 (upd (vh.1 0) (vh.2 0).toNatClampNeg a1), vh.2)) hx hb hK hP hD hS 1 rfl _ rfl g2 rfl dX0_addMouse_19 (fun H locs hP hD hS => ?_)
      refine lv_aload_n hx hb dX0_addMouse_20 rfl (lv_at hl 0 rfl) ?_
      refine va_get (D := D) (ci := 0) (v := .ref (qa 2)) (C := RX0) (T := TX0) (N := 12) hx hb hts in_X0_addMouse_X0 hown hK.1 hP 0 rfl rfl 1 (by decide) (hts _ kw_X0_addMouse_3) (fun _ h9 => h9) rfl dX0_addMouse_21 ?_
      refine lv_aload_n hx hb dX0_addMouse_24 rfl (lv_at hl 0 rfl) ?_
      refine va_get (D := D) (ci := 0) (v := .int (vh.2 0)) (C := RX0) (T := TX0) (N := 12) hx hb hts in_X0_addMouse_X0 hown hK.1 hP 0 rfl rfl 8 (by decide) (hts _ kw_X0_addMouse_1) (fun _ h9 => h9) rfl dX0_addMouse_25 ?_
      refine lv_iload_n hx hb dX0_addMouse_28 rfl (lv_at hl 2 rfl) ?_
      obtain ⟨g3, h⟩ := jn h
      refine jast (w' := wH cyI qa (va_up (va_up vh.1 0 (upd (vh.1 0) (vh.2 0).toNatClampNeg a1)) 1 (upd (vh.1 1) (vh.2 0).toNatClampNeg a2), vh.2)) hx hb hK hP hD hS 2 rfl _ rfl g3 rfl dX0_addMouse_29 (fun H locs hP hD hS => ?_)
      refine lv_aload_n hx hb dX0_addMouse_30 rfl (lv_at hl 0 rfl) ?_
      refine va_get (D := D) (ci := 0) (v := .ref (qa 3)) (C := RX0) (T := TX0) (N := 12) hx hb hts in_X0_addMouse_X0 hown hK.1 hP 0 rfl rfl 2 (by decide) (hts _ kw_X0_addMouse_4) (fun _ h9 => h9) rfl dX0_addMouse_31 ?_
      refine lv_aload_n hx hb dX0_addMouse_34 rfl (lv_at hl 0 rfl) ?_
      refine va_get (D := D) (ci := 0) (v := .int (vh.2 0)) (C := RX0) (T := TX0) (N := 12) hx hb hts in_X0_addMouse_X0 hown hK.1 hP 0 rfl rfl 8 (by decide) (hts _ kw_X0_addMouse_1) (fun _ h9 => h9) rfl dX0_addMouse_35 ?_
      refine lv_iload_n hx hb dX0_addMouse_38 rfl (lv_at hl 3 rfl) ?_
      obtain ⟨g4, h⟩ := jn h
      refine jast (w' := wH cyI qa (va_up (va_up (va_up vh.1 0 (upd (vh.1 0) (vh.2 0).toNatClampNeg a1)) 1 (upd (vh.1 1) (vh.2 0).toNatClampNeg a2)) 2 (upd (vh.1 2) (vh.2 0).toNatClampNeg a3), vh.2)) hx hb hK hP hD hS 3 rfl _ rfl g4 rfl dX0_addMouse_39 (fun H locs hP hD hS => ?_)
      refine lv_aload_n hx hb dX0_addMouse_40 rfl (lv_at hl 0 rfl) ?_
      refine va_get (D := D) (ci := 0) (v := .ref (qa 4)) (C := RX0) (T := TX0) (N := 12) hx hb hts in_X0_addMouse_X0 hown hK.1 hP 0 rfl rfl 3 (by decide) (hts _ kw_X0_addMouse_5) (fun _ h9 => h9) rfl dX0_addMouse_41 ?_
      refine lv_aload_n hx hb dX0_addMouse_44 rfl (lv_at hl 0 rfl) ?_
      refine va_get (D := D) (ci := 0) (v := .int (vh.2 0)) (C := RX0) (T := TX0) (N := 12) hx hb hts in_X0_addMouse_X0 hown hK.1 hP 0 rfl rfl 8 (by decide) (hts _ kw_X0_addMouse_1) (fun _ h9 => h9) rfl dX0_addMouse_45 ?_
      refine lv_iload hx hb dX0_addMouse_48 (lv_at hl 4 rfl) ?_
      obtain ⟨g5, h⟩ := jn h
      refine jast (w' := wH cyI qa (va_up (va_up (va_up (va_up vh.1 0 (upd (vh.1 0) (vh.2 0).toNatClampNeg a1)) 1 (upd (vh.1 1) (vh.2 0).toNatClampNeg a2)) 2 (upd (vh.1 2) (vh.2 0).toNatClampNeg a3)) 3 (upd (vh.1 3) (vh.2 0).toNatClampNeg a4), vh.2)) hx hb hK hP hD hS 4 rfl _ rfl g5 rfl dX0_addMouse_50 (fun H locs hP hD hS => ?_)
      refine lv_aload_n hx hb dX0_addMouse_51 rfl (lv_at hl 0 rfl) ?_
      refine lv_dup hx hb dX0_addMouse_52 rfl ?_
      refine va_get (D := D) (ci := 0) (v := .int (vh.2 0)) (C := RX0) (T := TX0) (N := 12) hx hb hts in_X0_addMouse_X0 hown hK.1 hP 0 rfl rfl 8 (by decide) (hts _ kw_X0_addMouse_1) (fun _ h9 => h9) rfl dX0_addMouse_53 ?_
      refine lv_iconst (v := (1 : Int32)) hx hb dX0_addMouse_56 (by decide) ?_
      refine lv_iadd hx hb dX0_addMouse_57 ?_
      refine va_put (D := D) (ci := 0) (v := .int ((vh.2 0) + (1 : Int32))) (ty := .int) (C := RX0) (T := TX0) (N := 12) hx hb hts in_X0_addMouse_X0 tyX0 tyX0_ok nmX0 hown hK.1 hP hD hS 0 rfl rfl 8 (by decide) (hts _ kw_X0_addMouse_1) (fun _ h9 => h9) rfl (tyX0_ok 8 (by decide)) rfl rfl (Nat.le_of_ble_eq_true rfl) dX0_addMouse_58 (fun H locs hP hD hS => ?_)
      have hP : va_P D vwCl (wH cyI qa (va_up (va_up (va_up (va_up vh.1 0 (upd (vh.1 0) (vh.2 0).toNatClampNeg a1)) 1 (upd (vh.1 1) (vh.2 0).toNatClampNeg a2)) 2 (upd (vh.1 2) (vh.2 0).toNatClampNeg a3)) 3 (upd (vh.1 3) (vh.2 0).toNatClampNeg a4), va_up vh.2 0 ((vh.2 0) + (1 : Int32)))) H := hP
      have hD : va_D A (wH cyI qa (va_up (va_up (va_up (va_up vh.1 0 (upd (vh.1 0) (vh.2 0).toNatClampNeg a1)) 1 (upd (vh.1 1) (vh.2 0).toNatClampNeg a2)) 2 (upd (vh.1 2) (vh.2 0).toNatClampNeg a3)) 3 (upd (vh.1 3) (vh.2 0).toNatClampNeg a4), va_up vh.2 0 ((vh.2 0) + (1 : Int32)))) := hD
      exact W.vret hx hb hr (fun t ht _ => ⟨⟨_, rfl, Option.some.inj h, by rw [ht]; exact hP, hD⟩, hS.F ht⟩) hS.2.2 dX0_addMouse_61 hlocks
    · have h := jf c1 h
      exact W.vret hx hb hr (fun t ht _ => ⟨⟨_, rfl, Option.some.inj h, by rw [ht]; exact hP, hD⟩, hS.F ht⟩) hS.2.2 dX0_addMouse_9 hlocks
  exact key s.heap [] hP hD hS
theorem kw_X0_addRat_1 : (.fieldLink RX0 46 "BellTheCat$House" "ratCount" "I" : Cond) ∈ wsX0_addRat := List.mem_of_getElem? (i := 1) rfl
theorem kw_X0_addRat_2 : (.fieldLink RX0 27 "BellTheCat$House" "prices" "[I" : Cond) ∈ wsX0_addRat := List.mem_of_getElem? (i := 2) rfl
theorem kw_X0_addRat_3 : (.fieldLink RX0 30 "BellTheCat$House" "skills" "[I" : Cond) ∈ wsX0_addRat := List.mem_of_getElem? (i := 3) rfl
theorem kw_X0_addRat_4 : (.fieldLink RX0 33 "BellTheCat$House" "words" "[I" : Cond) ∈ wsX0_addRat := List.mem_of_getElem? (i := 4) rfl
theorem in_X0_addRat_X0 : ∀ w ∈ wsX00, w ∈ wsX0_addRat := fun w h => List.mem_cons_of_mem _ (List.mem_append_right _ h)
abbrev rm_X0_addRat : Room := { frames := 0, cells := 0, slots := 0, locals := 0 }
set_option maxHeartbeats 4000000 in
set_option maxRecDepth 100000 in
theorem c_X0_addRat (l : Launch) (D : va_G) (cyI cyZ cyT : ClassId) (qa : Nat → Nat) (sz : Nat) (a1 : Int32) (a2 : Int32) (a3 : Int32) (vh : Mo) (o : Mo) (hf : f_X0_addRat a1 a2 a3 vh = some o) : Met l yX0_addRat wsX0_addRat rm_X0_addRat (va_Pc [.ref (qa 0), .int a1, .int a2, .int a3] (jM D cyI cyZ cyT (wH cyI qa vh) sz)) (jQv D (va_A (wH cyI qa vh) sz) (fun u : Mo => wH cyI qa u) o) 0 0 (va_A (wH cyI qa vh) sz) := by
  refine Met.ofW (cc := cX0_addRat) (maxL := 4) (ret := none) (by decide) rfl ?_
  intro p e s m args below meth c s₁ B hml hv
  obtain ⟨rfl, hsz, hP, hK, hD0⟩ := hv
  have hx := B.exec
  have hb := B.bytes
  have hr := B.returns
  have hts := atoms_spec (ws := wsX0_addRat) B.pre
  have hown : s.vm.findClass RX0 = some m.cls := findClass_of_methodNamed B.named
  have hlocks := B.notSynchronized
  subst hsz
  have hD := hD0.self (sz := s.heap.size)
  generalize hAe : va_A (wH cyI qa vh) s.heap.size = A at hD ⊢
  have hA : ∀ q : Nat, s.heap.size ≤ q → A q := fun q h => by rw [← hAe]; exact Or.inr h
  have hS : va_S A s.heap s.heap [] := va_S.rf
  have hl := lv_entry ([.ref (qa 0), .int a1, .int a2, .int a3]) (n := 4) (Nat.le_of_ble_eq_true rfl)
  rw [lg_entry_eq]
  generalize (lg_sl ([.ref (qa 0), .int a1, .int a2, .int a3]) ++ List.replicate (4 - (lg_sl ([.ref (qa 0), .int a1, .int a2, .int a3])).length) Slot.unset).toArray = ls at hl ⊢
  have hl : lv_has ls 4 [(0, .ref (qa 0)), (1, .int a1), (2, .int a2), (3, .int a3)] := hl
  clear B
  generalize ([.ref (qa 0), .int a1, .int a2, .int a3] : List Value).toArray = args at hts ⊢
  have key : ∀ (H : Heap) (locs : List Loc), va_P D vwCl (wH cyI qa vh) H → va_D A (wH cyI qa vh) → va_S A s.heap H locs → W p l e rm_X0_addRat s m args below meth c H locs 0 0 (MQ below (jQv D A (fun u : Mo => wH cyI qa u) o) args s 0 0 A) (F0 m 0 ls []) := by
    intro H locs hP hD hS
    have h := hf
    unfold f_X0_addRat at h
    refine lv_aload_n hx hb dX0_addRat_0 rfl (lv_at hl 0 rfl) ?_
    refine va_get (D := D) (ci := 0) (v := .int (vh.2 2)) (C := RX0) (T := TX0) (N := 12) hx hb hts in_X0_addRat_X0 hown hK.1 hP 0 rfl rfl 10 (by decide) (hts _ kw_X0_addRat_1) (fun _ h9 => h9) rfl dX0_addRat_1 ?_
    refine lv_iconst (v := (4 : Int32)) hx hb dX0_addRat_4 (by decide) ?_
    refine lv_icmp_lt (tgt := 9) hx hb dX0_addRat_5 (by decide) (fun c1 => ?_) (fun c1 => ?_)
    · have h := jt c1 h
      refine lv_aload_n hx hb dX0_addRat_9 rfl (lv_at hl 0 rfl) ?_
      refine va_get (D := D) (ci := 0) (v := .ref (qa 6)) (C := RX0) (T := TX0) (N := 12) hx hb hts in_X0_addRat_X0 hown hK.1 hP 0 rfl rfl 5 (by decide) (hts _ kw_X0_addRat_2) (fun _ h9 => h9) rfl dX0_addRat_10 ?_
      refine lv_aload_n hx hb dX0_addRat_13 rfl (lv_at hl 0 rfl) ?_
      refine va_get (D := D) (ci := 0) (v := .int (vh.2 2)) (C := RX0) (T := TX0) (N := 12) hx hb hts in_X0_addRat_X0 hown hK.1 hP 0 rfl rfl 10 (by decide) (hts _ kw_X0_addRat_1) (fun _ h9 => h9) rfl dX0_addRat_14 ?_
      refine lv_iload_n hx hb dX0_addRat_17 rfl (lv_at hl 1 rfl) ?_
      obtain ⟨g2, h⟩ := jn h
      refine jast (w' := wH cyI qa (va_up vh.1 5 (upd (vh.1 5) (vh.2 2).toNatClampNeg a1), vh.2)) hx hb hK hP hD hS 6 rfl _ rfl g2 rfl dX0_addRat_18 (fun H locs hP hD hS => ?_)
      refine lv_aload_n hx hb dX0_addRat_19 rfl (lv_at hl 0 rfl) ?_
      refine va_get (D := D) (ci := 0) (v := .ref (qa 7)) (C := RX0) (T := TX0) (N := 12) hx hb hts in_X0_addRat_X0 hown hK.1 hP 0 rfl rfl 6 (by decide) (hts _ kw_X0_addRat_3) (fun _ h9 => h9) rfl dX0_addRat_20 ?_
      refine lv_aload_n hx hb dX0_addRat_23 rfl (lv_at hl 0 rfl) ?_
      refine va_get (D := D) (ci := 0) (v := .int (vh.2 2)) (C := RX0) (T := TX0) (N := 12) hx hb hts in_X0_addRat_X0 hown hK.1 hP 0 rfl rfl 10 (by decide) (hts _ kw_X0_addRat_1) (fun _ h9 => h9) rfl dX0_addRat_24 ?_
      refine lv_iload_n hx hb dX0_addRat_27 rfl (lv_at hl 2 rfl) ?_
      obtain ⟨g3, h⟩ := jn h
      refine jast (w' := wH cyI qa (va_up (va_up vh.1 5 (upd (vh.1 5) (vh.2 2).toNatClampNeg a1)) 6 (upd (vh.1 6) (vh.2 2).toNatClampNeg a2), vh.2)) hx hb hK hP hD hS 7 rfl _ rfl g3 rfl dX0_addRat_28 (fun H locs hP hD hS => ?_)
      refine lv_aload_n hx hb dX0_addRat_29 rfl (lv_at hl 0 rfl) ?_
      refine va_get (D := D) (ci := 0) (v := .ref (qa 8)) (C := RX0) (T := TX0) (N := 12) hx hb hts in_X0_addRat_X0 hown hK.1 hP 0 rfl rfl 7 (by decide) (hts _ kw_X0_addRat_4) (fun _ h9 => h9) rfl dX0_addRat_30 ?_
      refine lv_aload_n hx hb dX0_addRat_33 rfl (lv_at hl 0 rfl) ?_
      refine va_get (D := D) (ci := 0) (v := .int (vh.2 2)) (C := RX0) (T := TX0) (N := 12) hx hb hts in_X0_addRat_X0 hown hK.1 hP 0 rfl rfl 10 (by decide) (hts _ kw_X0_addRat_1) (fun _ h9 => h9) rfl dX0_addRat_34 ?_
      refine lv_iload_n hx hb dX0_addRat_37 rfl (lv_at hl 3 rfl) ?_
      obtain ⟨g4, h⟩ := jn h
      refine jast (w' := wH cyI qa (va_up (va_up (va_up vh.1 5 (upd (vh.1 5) (vh.2 2).toNatClampNeg a1)) 6 (upd (vh.1 6) (vh.2 2).toNatClampNeg a2)) 7 (upd (vh.1 7) (vh.2 2).toNatClampNeg a3), vh.2)) hx hb hK hP hD hS 8 rfl _ rfl g4 rfl dX0_addRat_38 (fun H locs hP hD hS => ?_)
      refine lv_aload_n hx hb dX0_addRat_39 rfl (lv_at hl 0 rfl) ?_
      refine lv_dup hx hb dX0_addRat_40 rfl ?_
      refine va_get (D := D) (ci := 0) (v := .int (vh.2 2)) (C := RX0) (T := TX0) (N := 12) hx hb hts in_X0_addRat_X0 hown hK.1 hP 0 rfl rfl 10 (by decide) (hts _ kw_X0_addRat_1) (fun _ h9 => h9) rfl dX0_addRat_41 ?_
      refine lv_iconst (v := (1 : Int32)) hx hb dX0_addRat_44 (by decide) ?_
      refine lv_iadd hx hb dX0_addRat_45 ?_
      refine va_put (D := D) (ci := 0) (v := .int ((vh.2 2) + (1 : Int32))) (ty := .int) (C := RX0) (T := TX0) (N := 12) hx hb hts in_X0_addRat_X0 tyX0 tyX0_ok nmX0 hown hK.1 hP hD hS 0 rfl rfl 10 (by decide) (hts _ kw_X0_addRat_1) (fun _ h9 => h9) rfl (tyX0_ok 10 (by decide)) rfl rfl (Nat.le_of_ble_eq_true rfl) dX0_addRat_46 (fun H locs hP hD hS => ?_)
      have hP : va_P D vwCl (wH cyI qa (va_up (va_up (va_up vh.1 5 (upd (vh.1 5) (vh.2 2).toNatClampNeg a1)) 6 (upd (vh.1 6) (vh.2 2).toNatClampNeg a2)) 7 (upd (vh.1 7) (vh.2 2).toNatClampNeg a3), va_up vh.2 2 ((vh.2 2) + (1 : Int32)))) H := hP
      have hD : va_D A (wH cyI qa (va_up (va_up (va_up vh.1 5 (upd (vh.1 5) (vh.2 2).toNatClampNeg a1)) 6 (upd (vh.1 6) (vh.2 2).toNatClampNeg a2)) 7 (upd (vh.1 7) (vh.2 2).toNatClampNeg a3), va_up vh.2 2 ((vh.2 2) + (1 : Int32)))) := hD
      exact W.vret hx hb hr (fun t ht _ => ⟨⟨_, rfl, Option.some.inj h, by rw [ht]; exact hP, hD⟩, hS.F ht⟩) hS.2.2 dX0_addRat_49 hlocks
    · have h := jf c1 h
      exact W.vret hx hb hr (fun t ht _ => ⟨⟨_, rfl, Option.some.inj h, by rw [ht]; exact hP, hD⟩, hS.F ht⟩) hS.2.2 dX0_addRat_8 hlocks
  exact key s.heap [] hP hD hS
theorem kw_X0_hasMouse_1 : (.fieldLink RX0 40 "BellTheCat$House" "miceCount" "I" : Cond) ∈ wsX0_hasMouse := List.mem_of_getElem? (i := 1) rfl
theorem in_X0_hasMouse_X0 : ∀ w ∈ wsX00, w ∈ wsX0_hasMouse := fun w h => List.mem_cons_of_mem _ (List.mem_append_right _ h)
abbrev rm_X0_hasMouse : Room := { frames := 0, cells := 0, slots := 0, locals := 0 }
set_option maxHeartbeats 4000000 in
set_option maxRecDepth 100000 in
theorem c_X0_hasMouse (l : Launch) (D : va_G) (cyI cyZ cyT : ClassId) (qa : Nat → Nat) (a1 : Int32) (vh : Mo) (o : Int32) (hf : f_X0_hasMouse a1 vh = some o) : Met l yX0_hasMouse wsX0_hasMouse rm_X0_hasMouse (va_Pc [.ref (qa 0), .int a1] (jB D cyI cyZ cyT (wH cyI qa vh))) (jSi o) 0 0 (fun _ => False) := by
  refine Met.ofW (cc := cX0_hasMouse) (maxL := 2) (ret := (some .boolean)) (by decide) rfl ?_
  intro p e s m args below meth c s₁ B hml hv
  obtain ⟨rfl, hP, hK⟩ := hv
  have hx := B.exec
  have hb := B.bytes
  have hr := B.returns
  have hts := atoms_spec (ws := wsX0_hasMouse) B.pre
  have hown : s.vm.findClass RX0 = some m.cls := findClass_of_methodNamed B.named
  have hlocks := B.notSynchronized
  have hl := lv_entry ([.ref (qa 0), .int a1]) (n := 2) (Nat.le_of_ble_eq_true rfl)
  rw [lg_entry_eq]
  generalize (lg_sl ([.ref (qa 0), .int a1]) ++ List.replicate (2 - (lg_sl ([.ref (qa 0), .int a1])).length) Slot.unset).toArray = ls at hl ⊢
  have hl : lv_has ls 2 [(0, .ref (qa 0)), (1, .int a1)] := hl
  clear B
  generalize ([.ref (qa 0), .int a1] : List Value).toArray = args at hts ⊢
  have key : ∀ (H : Heap), va_P D vwCl (wH cyI qa vh) H → H = s.heap → W p l e rm_X0_hasMouse s m args below meth c H [] 0 0 (MQ below (jSi o) args s 0 0 (fun _ => False)) (F0 m 0 ls []) := by
    intro H hP hH
    have h := hf
    unfold f_X0_hasMouse at h
    refine lv_iload_n hx hb dX0_hasMouse_0 rfl (lv_at hl 1 rfl) ?_
    refine lv_if_lt (tgt := 22) hx hb dX0_hasMouse_1 (by decide) (fun c1 => ?_) (fun c1 => ?_)
    · have h := jt c1 h
      refine lv_iconst (v := (0 : Int32)) hx hb dX0_hasMouse_22 (by decide) ?_
      exact W.zret hx hb hr rfl (fun t ht _ => ⟨_, rfl, Option.some.inj h, ht.trans hH⟩) (fun q h => by cases h) dX0_hasMouse_23 hlocks
    · have h := jf c1 h
      refine lv_iload_n hx hb dX0_hasMouse_4 rfl (lv_at hl 1 rfl) ?_
      refine lv_aload_n hx hb dX0_hasMouse_5 rfl (lv_at hl 0 rfl) ?_
      refine va_get (D := D) (ci := 0) (v := .int (vh.2 0)) (C := RX0) (T := TX0) (N := 12) hx hb hts in_X0_hasMouse_X0 hown hK.1 hP 0 rfl rfl 8 (by decide) (hts _ kw_X0_hasMouse_1) (fun _ h9 => h9) rfl dX0_hasMouse_6 ?_
      refine lv_icmp_ge (tgt := 22) hx hb dX0_hasMouse_9 (by decide) (fun c2 => ?_) (fun c2 => ?_)
      · have h := jt c2 h
        refine lv_iconst (v := (0 : Int32)) hx hb dX0_hasMouse_22 (by decide) ?_
        exact W.zret hx hb hr rfl (fun t ht _ => ⟨_, rfl, Option.some.inj h, ht.trans hH⟩) (fun q h => by cases h) dX0_hasMouse_23 hlocks
      · have h := jf c2 h
        refine lv_iload_n hx hb dX0_hasMouse_12 rfl (lv_at hl 1 rfl) ?_
        refine lv_bipush (v := (6 : Int32)) hx hb dX0_hasMouse_13 (by decide) ?_
        refine lv_icmp_ge (tgt := 22) hx hb dX0_hasMouse_15 (by decide) (fun c3 => ?_) (fun c3 => ?_)
        · have h := jt c3 h
          refine lv_iconst (v := (0 : Int32)) hx hb dX0_hasMouse_22 (by decide) ?_
          exact W.zret hx hb hr rfl (fun t ht _ => ⟨_, rfl, Option.some.inj h, ht.trans hH⟩) (fun q h => by cases h) dX0_hasMouse_23 hlocks
        · have h := jf c3 h
          refine lv_iconst (v := (1 : Int32)) hx hb dX0_hasMouse_18 (by decide) ?_
          refine lv_goto (tgt := 23) hx hb dX0_hasMouse_19 (by decide) ?_
          exact W.zret hx hb hr rfl (fun t ht _ => ⟨_, rfl, Option.some.inj h, ht.trans hH⟩) (fun q h => by cases h) dX0_hasMouse_23 hlocks
  exact key s.heap hP rfl
theorem kw_X0_hasStep_1 : (.fieldLink RX0 43 "BellTheCat$House" "stepCount" "I" : Cond) ∈ wsX0_hasStep := List.mem_of_getElem? (i := 1) rfl
theorem in_X0_hasStep_X0 : ∀ w ∈ wsX00, w ∈ wsX0_hasStep := fun w h => List.mem_cons_of_mem _ (List.mem_append_right _ h)
abbrev rm_X0_hasStep : Room := { frames := 0, cells := 0, slots := 0, locals := 0 }
set_option maxHeartbeats 4000000 in
set_option maxRecDepth 100000 in
theorem c_X0_hasStep (l : Launch) (D : va_G) (cyI cyZ cyT : ClassId) (qa : Nat → Nat) (a1 : Int32) (vh : Mo) (o : Int32) (hf : f_X0_hasStep a1 vh = some o) : Met l yX0_hasStep wsX0_hasStep rm_X0_hasStep (va_Pc [.ref (qa 0), .int a1] (jB D cyI cyZ cyT (wH cyI qa vh))) (jSi o) 0 0 (fun _ => False) := by
  refine Met.ofW (cc := cX0_hasStep) (maxL := 2) (ret := (some .boolean)) (by decide) rfl ?_
  intro p e s m args below meth c s₁ B hml hv
  obtain ⟨rfl, hP, hK⟩ := hv
  have hx := B.exec
  have hb := B.bytes
  have hr := B.returns
  have hts := atoms_spec (ws := wsX0_hasStep) B.pre
  have hown : s.vm.findClass RX0 = some m.cls := findClass_of_methodNamed B.named
  have hlocks := B.notSynchronized
  have hl := lv_entry ([.ref (qa 0), .int a1]) (n := 2) (Nat.le_of_ble_eq_true rfl)
  rw [lg_entry_eq]
  generalize (lg_sl ([.ref (qa 0), .int a1]) ++ List.replicate (2 - (lg_sl ([.ref (qa 0), .int a1])).length) Slot.unset).toArray = ls at hl ⊢
  have hl : lv_has ls 2 [(0, .ref (qa 0)), (1, .int a1)] := hl
  clear B
  generalize ([.ref (qa 0), .int a1] : List Value).toArray = args at hts ⊢
  have key : ∀ (H : Heap), va_P D vwCl (wH cyI qa vh) H → H = s.heap → W p l e rm_X0_hasStep s m args below meth c H [] 0 0 (MQ below (jSi o) args s 0 0 (fun _ => False)) (F0 m 0 ls []) := by
    intro H hP hH
    have h := hf
    unfold f_X0_hasStep at h
    refine lv_iload_n hx hb dX0_hasStep_0 rfl (lv_at hl 1 rfl) ?_
    refine lv_if_lt (tgt := 21) hx hb dX0_hasStep_1 (by decide) (fun c1 => ?_) (fun c1 => ?_)
    · have h := jt c1 h
      refine lv_iconst (v := (0 : Int32)) hx hb dX0_hasStep_21 (by decide) ?_
      exact W.zret hx hb hr rfl (fun t ht _ => ⟨_, rfl, Option.some.inj h, ht.trans hH⟩) (fun q h => by cases h) dX0_hasStep_22 hlocks
    · have h := jf c1 h
      refine lv_iload_n hx hb dX0_hasStep_4 rfl (lv_at hl 1 rfl) ?_
      refine lv_aload_n hx hb dX0_hasStep_5 rfl (lv_at hl 0 rfl) ?_
      refine va_get (D := D) (ci := 0) (v := .int (vh.2 1)) (C := RX0) (T := TX0) (N := 12) hx hb hts in_X0_hasStep_X0 hown hK.1 hP 0 rfl rfl 9 (by decide) (hts _ kw_X0_hasStep_1) (fun _ h9 => h9) rfl dX0_hasStep_6 ?_
      refine lv_icmp_ge (tgt := 21) hx hb dX0_hasStep_9 (by decide) (fun c2 => ?_) (fun c2 => ?_)
      · have h := jt c2 h
        refine lv_iconst (v := (0 : Int32)) hx hb dX0_hasStep_21 (by decide) ?_
        exact W.zret hx hb hr rfl (fun t ht _ => ⟨_, rfl, Option.some.inj h, ht.trans hH⟩) (fun q h => by cases h) dX0_hasStep_22 hlocks
      · have h := jf c2 h
        refine lv_iload_n hx hb dX0_hasStep_12 rfl (lv_at hl 1 rfl) ?_
        refine lv_iconst (v := (5 : Int32)) hx hb dX0_hasStep_13 (by decide) ?_
        refine lv_icmp_ge (tgt := 21) hx hb dX0_hasStep_14 (by decide) (fun c3 => ?_) (fun c3 => ?_)
        · have h := jt c3 h
          refine lv_iconst (v := (0 : Int32)) hx hb dX0_hasStep_21 (by decide) ?_
          exact W.zret hx hb hr rfl (fun t ht _ => ⟨_, rfl, Option.some.inj h, ht.trans hH⟩) (fun q h => by cases h) dX0_hasStep_22 hlocks
        · have h := jf c3 h
          refine lv_iconst (v := (1 : Int32)) hx hb dX0_hasStep_17 (by decide) ?_
          refine lv_goto (tgt := 22) hx hb dX0_hasStep_18 (by decide) ?_
          exact W.zret hx hb hr rfl (fun t ht _ => ⟨_, rfl, Option.some.inj h, ht.trans hH⟩) (fun q h => by cases h) dX0_hasStep_22 hlocks
  exact key s.heap hP rfl
theorem kw_X7_dangerOf_1 : (.methodLink RX7 317 Lib.Math.max.name : Cond) ∈ wsX7_dangerOf := List.mem_of_getElem? (i := 1) rfl
theorem kw_X7_dangerOf_2 : (.static Lib.Math.max.name : Cond) ∈ wsX7_dangerOf := List.mem_of_getElem? (i := 2) rfl
theorem kw_X7_dangerOf_3 : (.initialized "java/lang/Math" : Cond) ∈ wsX7_dangerOf := List.mem_of_getElem? (i := 3) rfl
theorem kw_X7_dangerOf_4 : (.code Lib.Math.max.name Lib.Math.max.code 2 (some .int) : Cond) ∈ wsX7_dangerOf := List.mem_of_getElem? (i := 4) rfl
theorem kw_X7_dangerOf_5 : (.methodLink RX7 272 Lib.Math.min.name : Cond) ∈ wsX7_dangerOf := List.mem_of_getElem? (i := 5) rfl
theorem kw_X7_dangerOf_6 : (.static Lib.Math.min.name : Cond) ∈ wsX7_dangerOf := List.mem_of_getElem? (i := 6) rfl
theorem kw_X7_dangerOf_7 : (.code Lib.Math.min.name Lib.Math.min.code 2 (some .int) : Cond) ∈ wsX7_dangerOf := List.mem_of_getElem? (i := 7) rfl
abbrev rm_X7_dangerOf : Room := { frames := 1, cells := 0, slots := 0, locals := 64 }
set_option maxHeartbeats 4000000 in
set_option maxRecDepth 100000 in
theorem c_X7_dangerOf (l : Launch) (D : va_G) (cyI cyZ cyT : ClassId) (a0 : Int32) (a1 : Int32) (a2 : Int32) (o : Int32) (hf : f_X7_dangerOf a0 a1 a2 = some o) : Met l yX7_dangerOf wsX7_dangerOf rm_X7_dangerOf (va_Pc [.int a0, .int a1, .int a2] (jB D cyI cyZ cyT ([]))) (jSi o) 0 0 (fun _ => False) := by
  refine Met.ofW (cc := cX7_dangerOf) (maxL := 4) (ret := (some .int)) (by decide) rfl ?_
  intro p e s m args below meth c s₁ B hml hv
  obtain ⟨rfl, hP, hK⟩ := hv
  have hx := B.exec
  have hb := B.bytes
  have hr := B.returns
  have hts := atoms_spec (ws := wsX7_dangerOf) B.pre
  have hown : s.vm.findClass RX7 = some m.cls := findClass_of_methodNamed B.named
  have hlocks := B.notSynchronized
  have hl := lv_entry ([.int a0, .int a1, .int a2]) (n := 4) (Nat.le_of_ble_eq_true rfl)
  rw [lg_entry_eq]
  generalize (lg_sl ([.int a0, .int a1, .int a2]) ++ List.replicate (4 - (lg_sl ([.int a0, .int a1, .int a2])).length) Slot.unset).toArray = ls at hl ⊢
  have hl : lv_has ls 4 [(0, .int a0), (1, .int a1), (2, .int a2)] := hl
  clear B
  generalize ([.int a0, .int a1, .int a2] : List Value).toArray = args at hts ⊢
  have key : ∀ (H : Heap), va_P D vwCl ([]) H → H = s.heap → W p l e rm_X7_dangerOf s m args below meth c H [] 0 0 (MQ below (jSi o) args s 0 0 (fun _ => False)) (F0 m 0 ls []) := by
    intro H hP hH
    have h := hf
    unfold f_X7_dangerOf at h
    refine lv_bipush (v := (10 : Int32)) hx hb dX7_dangerOf_0 (by decide) ?_
    refine lv_iconst (v := (0 : Int32)) hx hb dX7_dangerOf_2 (by decide) ?_
    refine lv_iload_n hx hb dX7_dangerOf_3 rfl (lv_at hl 0 rfl) ?_
    refine lv_iload_n hx hb dX7_dangerOf_4 rfl (lv_at hl 2 rfl) ?_
    refine lv_isub hx hb dX7_dangerOf_5 ?_
    refine va_mmax hx hb (hml.trans hl.1.symm) hown (hts _ kw_X7_dangerOf_1) (hts _ kw_X7_dangerOf_2) (hts _ kw_X7_dangerOf_3) (hts _ kw_X7_dangerOf_4) (Nat.le_of_ble_eq_true rfl) (Nat.le_of_ble_eq_true rfl) (Nat.le_of_ble_eq_true rfl) (Nat.le_of_ble_eq_true rfl) dX7_dangerOf_6 ?_
    refine va_mmin hx hb (hml.trans hl.1.symm) hown (hts _ kw_X7_dangerOf_5) (hts _ kw_X7_dangerOf_6) (hts _ kw_X7_dangerOf_3) (hts _ kw_X7_dangerOf_7) (Nat.le_of_ble_eq_true rfl) (Nat.le_of_ble_eq_true rfl) (Nat.le_of_ble_eq_true rfl) (Nat.le_of_ble_eq_true rfl) dX7_dangerOf_9 ?_
    refine lv_istore_n (lv' := [(3, .int (if (if (0 : Int32) < (a0 - a2) then (a0 - a2) else (0 : Int32)) < (10 : Int32) then (if (0 : Int32) < (a0 - a2) then (a0 - a2) else (0 : Int32)) else (10 : Int32))), (0, .int a0), (1, .int a1), (2, .int a2)]) hx hb dX7_dangerOf_12 rfl hl (by decide) rfl (fun ls hl => ?_)
    refine lv_iload_n hx hb dX7_dangerOf_13 rfl (lv_at hl 2 rfl) ?_
    by_cases c1 : a1 = (1 : Int32)
    · have h := jt c1 h
      refine lv_tableIn (off := 26) (tgt := 40) hx hb dX7_dangerOf_14 (by rw [c1]; decide) (by rw [c1]; decide) (by rw [c1]; rfl) (by decide) ?_
      refine lv_iload_n hx hb dX7_dangerOf_40 rfl (lv_at hl 0 rfl) ?_
      refine lv_if_le (tgt := 55) hx hb dX7_dangerOf_41 (by decide) (fun c2 => ?_) (fun c2 => ?_)
      · have h := jt c2 h
        refine lv_iconst (v := (0 : Int32)) hx hb dX7_dangerOf_55 (by decide) ?_
        exact W.iret hx hb hr (fun t ht _ => ⟨_, rfl, Option.some.inj h, ht.trans hH⟩) (fun q h => by cases h) dX7_dangerOf_56 hlocks
      · have h := jf c2 h
        refine lv_bipush (v := (10 : Int32)) hx hb dX7_dangerOf_44 (by decide) ?_
        refine lv_iload_n hx hb dX7_dangerOf_46 rfl (lv_at hl 0 rfl) ?_
        refine lv_iconst (v := (2 : Int32)) hx hb dX7_dangerOf_47 (by decide) ?_
        refine lv_iadd hx hb dX7_dangerOf_48 ?_
        refine va_mmin hx hb (hml.trans hl.1.symm) hown (hts _ kw_X7_dangerOf_5) (hts _ kw_X7_dangerOf_6) (hts _ kw_X7_dangerOf_3) (hts _ kw_X7_dangerOf_7) (Nat.le_of_ble_eq_true rfl) (Nat.le_of_ble_eq_true rfl) (Nat.le_of_ble_eq_true rfl) (Nat.le_of_ble_eq_true rfl) dX7_dangerOf_49 ?_
        refine lv_goto (tgt := 56) hx hb dX7_dangerOf_52 (by decide) ?_
        exact W.iret hx hb hr (fun t ht _ => ⟨_, rfl, Option.some.inj h, ht.trans hH⟩) (fun q h => by cases h) dX7_dangerOf_56 hlocks
    have h := jf c1 h
    by_cases c3 : a1 = (2 : Int32)
    · have h := jt c3 h
      refine lv_tableIn (off := 43) (tgt := 57) hx hb dX7_dangerOf_14 (by rw [c3]; decide) (by rw [c3]; decide) (by rw [c3]; rfl) (by decide) ?_
      refine lv_iload_n hx hb dX7_dangerOf_57 rfl (lv_at hl 1 rfl) ?_
      refine lv_iconst (v := (5 : Int32)) hx hb dX7_dangerOf_58 (by decide) ?_
      refine lv_icmp_le (tgt := 67) hx hb dX7_dangerOf_59 (by decide) (fun c4 => ?_) (fun c4 => ?_)
      · have h := jt c4 h
        refine lv_iload_n hx hb dX7_dangerOf_67 rfl (lv_at hl 0 rfl) ?_
        exact W.iret hx hb hr (fun t ht _ => ⟨_, rfl, Option.some.inj h, ht.trans hH⟩) (fun q h => by cases h) dX7_dangerOf_68 hlocks
      · have h := jf c4 h
        refine lv_bipush (v := (10 : Int32)) hx hb dX7_dangerOf_62 (by decide) ?_
        refine lv_goto (tgt := 68) hx hb dX7_dangerOf_64 (by decide) ?_
        exact W.iret hx hb hr (fun t ht _ => ⟨_, rfl, Option.some.inj h, ht.trans hH⟩) (fun q h => by cases h) dX7_dangerOf_68 hlocks
    have h := jf c3 h
    by_cases c5 : a1 = (3 : Int32)
    · have h := jt c5 h
      refine lv_tableIn (off := 55) (tgt := 69) hx hb dX7_dangerOf_14 (by rw [c5]; decide) (by rw [c5]; decide) (by rw [c5]; rfl) (by decide) ?_
      refine lv_iconst (v := (0 : Int32)) hx hb dX7_dangerOf_69 (by decide) ?_
      refine lv_iload_n hx hb dX7_dangerOf_70 rfl (lv_at hl 0 rfl) ?_
      refine lv_iconst (v := (1 : Int32)) hx hb dX7_dangerOf_71 (by decide) ?_
      refine lv_isub hx hb dX7_dangerOf_72 ?_
      refine va_mmax hx hb (hml.trans hl.1.symm) hown (hts _ kw_X7_dangerOf_1) (hts _ kw_X7_dangerOf_2) (hts _ kw_X7_dangerOf_3) (hts _ kw_X7_dangerOf_4) (Nat.le_of_ble_eq_true rfl) (Nat.le_of_ble_eq_true rfl) (Nat.le_of_ble_eq_true rfl) (Nat.le_of_ble_eq_true rfl) dX7_dangerOf_73 ?_
      exact W.iret hx hb hr (fun t ht _ => ⟨_, rfl, Option.some.inj h, ht.trans hH⟩) (fun q h => by cases h) dX7_dangerOf_76 hlocks
    have h := jf c5 h
    refine lv_tableOut (tgt := 77) hx hb dX7_dangerOf_14 (by have d0 := jne (z := 1) rfl c1; have d1 := jne (z := 2) rfl c3; have d2 := jne (z := 3) rfl c5; omega) (by decide) ?_
    refine lv_iload_n hx hb dX7_dangerOf_77 rfl (lv_at hl 0 rfl) ?_
    exact W.iret hx hb hr (fun t ht _ => ⟨_, rfl, Option.some.inj h, ht.trans hH⟩) (fun q h => by cases h) dX7_dangerOf_78 hlocks
  exact key s.heap hP rfl
theorem kw_X0_dangerAt_1 : (.fieldLink RX0 24 "BellTheCat$House" "noises" "[I" : Cond) ∈ wsX0_dangerAt := List.mem_of_getElem? (i := 1) rfl
theorem kw_X0_dangerAt_2 : (.fieldLink RX0 9 "BellTheCat$House" "kinds" "[I" : Cond) ∈ wsX0_dangerAt := List.mem_of_getElem? (i := 2) rfl
theorem kw_X0_dangerAt_3 : (.fieldLink RX0 15 "BellTheCat$House" "speeds" "[I" : Cond) ∈ wsX0_dangerAt := List.mem_of_getElem? (i := 3) rfl
theorem kw_X0_dangerAt_15 : (.static yX7_dangerOf : Cond) ∈ wsX0_dangerAt := List.mem_of_getElem? (i := 15) rfl
theorem kw_X0_dangerAt_16 : (.initialized RX7 : Cond) ∈ wsX0_dangerAt := List.mem_of_getElem? (i := 16) rfl
theorem in_X0_dangerAt_X0 : ∀ w ∈ wsX00, w ∈ wsX0_dangerAt := fun w h => List.mem_cons_of_mem _ (List.mem_append_right _ h)
abbrev rm_X0_dangerAt : Room := { frames := 2, cells := 0, slots := 0, locals := 87 }
set_option maxHeartbeats 4000000 in
set_option maxRecDepth 100000 in
theorem c_X0_dangerAt (l : Launch) (D : va_G) (cyI cyZ cyT : ClassId) (qa : Nat → Nat) (a1 : Int32) (a2 : Int32) (vh : Mo) (o : Int32) (hf : f_X0_dangerAt a1 a2 vh = some o) : Met l yX0_dangerAt wsX0_dangerAt rm_X0_dangerAt (va_Pc [.ref (qa 0), .int a1, .int a2] (jB D cyI cyZ cyT (wH cyI qa vh))) (jSi o) 0 0 (fun _ => False) := by
  refine Met.ofW (cc := cX0_dangerAt) (maxL := 3) (ret := (some .int)) (by decide) rfl ?_
  intro p e s m args below meth c s₁ B hml hv
  obtain ⟨rfl, hP, hK⟩ := hv
  have hx := B.exec
  have hb := B.bytes
  have hr := B.returns
  have hts := atoms_spec (ws := wsX0_dangerAt) B.pre
  have hown : s.vm.findClass RX0 = some m.cls := findClass_of_methodNamed B.named
  have hlocks := B.notSynchronized
  have hl := lv_entry ([.ref (qa 0), .int a1, .int a2]) (n := 3) (Nat.le_of_ble_eq_true rfl)
  rw [lg_entry_eq]
  generalize (lg_sl ([.ref (qa 0), .int a1, .int a2]) ++ List.replicate (3 - (lg_sl ([.ref (qa 0), .int a1, .int a2])).length) Slot.unset).toArray = ls at hl ⊢
  have hl : lv_has ls 3 [(0, .ref (qa 0)), (1, .int a1), (2, .int a2)] := hl
  clear B
  generalize ([.ref (qa 0), .int a1, .int a2] : List Value).toArray = args at hts ⊢
  have key : ∀ (H : Heap), va_P D vwCl (wH cyI qa vh) H → H = s.heap → W p l e rm_X0_dangerAt s m args below meth c H [] 0 0 (MQ below (jSi o) args s 0 0 (fun _ => False)) (F0 m 0 ls []) := by
    intro H hP hH
    have h := hf
    unfold f_X0_dangerAt at h
    refine lv_aload_n hx hb dX0_dangerAt_0 rfl (lv_at hl 0 rfl) ?_
    refine lv_iload_n hx hb dX0_dangerAt_1 rfl (lv_at hl 1 rfl) ?_
    obtain ⟨z1, hz1, h⟩ := jb h
    refine jki (jrV (As := [.int a1]) (rest := []) ⟨hx, hb, hml, hown, hts⟩ (c_X0_hasStep l D cyI cyZ cyT qa  a1 vh z1 hz1) (cwV 1 hts gX0_dangerAt_X0_hasStep rfl rfl rfl (by decide +kernel) ⟨Nat.le_of_ble_eq_true rfl, Nat.le_of_ble_eq_true rfl⟩) hK hP rfl 0 0 rfl rfl rfl hl.1 (Nat.le_of_ble_eq_true rfl) dX0_dangerAt_2 ⟨Nat.le_of_ble_eq_true rfl, Nat.le_of_ble_eq_true rfl⟩) ?_
    clear hz1
    refine lv_if_eq (tgt := 16) hx hb dX0_dangerAt_5 (by decide) (fun c2 => ?_) (fun c2 => ?_)
    · have h := jt c2 h
      refine lv_iconst (v := (0 : Int32)) hx hb dX0_dangerAt_16 (by decide) ?_
      exact W.iret hx hb hr (fun t ht _ => ⟨_, rfl, Option.some.inj h, ht.trans hH⟩) (fun q h => by cases h) dX0_dangerAt_17 hlocks
    · have h := jf c2 h
      refine lv_aload_n hx hb dX0_dangerAt_8 rfl (lv_at hl 0 rfl) ?_
      refine lv_iload_n hx hb dX0_dangerAt_9 rfl (lv_at hl 2 rfl) ?_
      obtain ⟨z3, hz3, h⟩ := jb h
      refine jki (jrV (As := [.int a2]) (rest := []) ⟨hx, hb, hml, hown, hts⟩ (c_X0_hasMouse l D cyI cyZ cyT qa  a2 vh z3 hz3) (cwV 1 hts gX0_dangerAt_X0_hasMouse rfl rfl rfl (by decide +kernel) ⟨Nat.le_of_ble_eq_true rfl, Nat.le_of_ble_eq_true rfl⟩) hK hP rfl 0 0 rfl rfl rfl hl.1 (Nat.le_of_ble_eq_true rfl) dX0_dangerAt_10 ⟨Nat.le_of_ble_eq_true rfl, Nat.le_of_ble_eq_true rfl⟩) ?_
      clear hz3
      refine lv_if_ne (tgt := 18) hx hb dX0_dangerAt_13 (by decide) (fun c4 => ?_) (fun c4 => ?_)
      · have h := jf c4 h
        refine lv_aload_n hx hb dX0_dangerAt_18 rfl (lv_at hl 0 rfl) ?_
        refine va_get (D := D) (ci := 0) (v := .ref (qa 5)) (C := RX0) (T := TX0) (N := 12) hx hb hts in_X0_dangerAt_X0 hown hK.1 hP 0 rfl rfl 4 (by decide) (hts _ kw_X0_dangerAt_1) (fun _ h9 => h9) rfl dX0_dangerAt_19 ?_
        refine lv_iload_n hx hb dX0_dangerAt_22 rfl (lv_at hl 1 rfl) ?_
        obtain ⟨g5, h⟩ := jn h
        refine jald hx hb hK hP 5 rfl _ rfl g5 dX0_dangerAt_23 ?_
        refine lv_aload_n hx hb dX0_dangerAt_24 rfl (lv_at hl 0 rfl) ?_
        refine va_get (D := D) (ci := 0) (v := .ref (qa 1)) (C := RX0) (T := TX0) (N := 12) hx hb hts in_X0_dangerAt_X0 hown hK.1 hP 0 rfl rfl 0 (by decide) (hts _ kw_X0_dangerAt_2) (fun _ h9 => h9) rfl dX0_dangerAt_25 ?_
        refine lv_iload_n hx hb dX0_dangerAt_28 rfl (lv_at hl 2 rfl) ?_
        obtain ⟨g6, h⟩ := jn h
        refine jald hx hb hK hP 1 rfl _ rfl g6 dX0_dangerAt_29 ?_
        refine lv_aload_n hx hb dX0_dangerAt_30 rfl (lv_at hl 0 rfl) ?_
        refine va_get (D := D) (ci := 0) (v := .ref (qa 2)) (C := RX0) (T := TX0) (N := 12) hx hb hts in_X0_dangerAt_X0 hown hK.1 hP 0 rfl rfl 1 (by decide) (hts _ kw_X0_dangerAt_3) (fun _ h9 => h9) rfl dX0_dangerAt_31 ?_
        refine lv_iload_n hx hb dX0_dangerAt_34 rfl (lv_at hl 2 rfl) ?_
        obtain ⟨g7, h⟩ := jn h
        refine jald hx hb hK hP 2 rfl _ rfl g7 dX0_dangerAt_35 ?_
        obtain ⟨z8, hz8, h⟩ := jb h
        refine jki (jrN (As := [.int (vh.1 4 a1.toNatClampNeg), .int (vh.1 0 a2.toNatClampNeg), .int (vh.1 1 a2.toNatClampNeg)]) (rest := []) ⟨hx, hb, hml, hown, hts⟩ (c_X7_dangerOf l D cyI cyZ cyT   (vh.1 4 a1.toNatClampNeg) (vh.1 0 a2.toNatClampNeg) (vh.1 1 a2.toNatClampNeg) z8 hz8) ⟨va_cnB 3 hts gX0_dangerAt_X7_dangerOf_n73 rfl rfl rfl hK.2.2.1 (hts _ kw_X0_dangerAt_16) (by decide +kernel) ⟨Nat.le_of_ble_eq_true rfl, Nat.le_of_ble_eq_true rfl⟩, hts _ kw_X0_dangerAt_15, trivial⟩ hK jP0 rfl rfl hl.1 (Nat.le_of_ble_eq_true rfl) dX0_dangerAt_36 ⟨Nat.le_of_ble_eq_true rfl, Nat.le_of_ble_eq_true rfl⟩) ?_
        clear hz8
        exact W.iret hx hb hr (fun t ht _ => ⟨_, rfl, Option.some.inj h, ht.trans hH⟩) (fun q h => by cases h) dX0_dangerAt_39 hlocks
      · have h := jt c4 h
        refine lv_iconst (v := (0 : Int32)) hx hb dX0_dangerAt_16 (by decide) ?_
        exact W.iret hx hb hr (fun t ht _ => ⟨_, rfl, Option.some.inj h, ht.trans hH⟩) (fun q h => by cases h) dX0_dangerAt_17 hlocks
  exact key s.heap hP rfl
theorem kw_X0_aloneAbove_1 : (.fieldLink RX0 43 "BellTheCat$House" "stepCount" "I" : Cond) ∈ wsX0_aloneAbove := List.mem_of_getElem? (i := 1) rfl
theorem kw_X0_aloneAbove_2 : (.constantLong RX0 77 (10) : Cond) ∈ wsX0_aloneAbove := List.mem_of_getElem? (i := 2) rfl
theorem in_X0_aloneAbove_X0 : ∀ w ∈ wsX00, w ∈ wsX0_aloneAbove := fun w h => List.mem_cons_of_mem _ (List.mem_append_right _ h)
abbrev rm_X0_aloneAbove : Room := { frames := 3, cells := 0, slots := 0, locals := 109 }
set_option maxHeartbeats 4000000 in
set_option maxRecDepth 100000 in
theorem c_X0_aloneAbove (l : Launch) (D : va_G) (cyI cyZ cyT : ClassId) (qa : Nat → Nat) (N : Nat) (a1 : Int32) (vh : Mo) (o : Int64) (hf : f_X0_aloneAbove N a1 vh = some o) : Met l yX0_aloneAbove wsX0_aloneAbove rm_X0_aloneAbove (va_Pc [.ref (qa 0), .int a1] (jB D cyI cyZ cyT (wH cyI qa vh))) (jSl o) 0 0 (fun _ => False) := by
  refine Met.ofW (cc := cX0_aloneAbove) (maxL := 7) (ret := (some .long)) (by decide) rfl ?_
  intro p e s m args below meth c s₁ B hml hv
  obtain ⟨rfl, hP, hK⟩ := hv
  have hx := B.exec
  have hb := B.bytes
  have hr := B.returns
  have hts := atoms_spec (ws := wsX0_aloneAbove) B.pre
  have hown : s.vm.findClass RX0 = some m.cls := findClass_of_methodNamed B.named
  have hlocks := B.notSynchronized
  have hl := lv_entry ([.ref (qa 0), .int a1]) (n := 7) (Nat.le_of_ble_eq_true rfl)
  rw [lg_entry_eq]
  generalize (lg_sl ([.ref (qa 0), .int a1]) ++ List.replicate (7 - (lg_sl ([.ref (qa 0), .int a1])).length) Slot.unset).toArray = ls at hl ⊢
  have hl : lv_has ls 7 [(0, .ref (qa 0)), (1, .int a1)] := hl
  clear B
  generalize ([.ref (qa 0), .int a1] : List Value).toArray = args at hts ⊢
  have key : ∀ (H : Heap), va_P D vwCl (wH cyI qa vh) H → H = s.heap → W p l e rm_X0_aloneAbove s m args below meth c H [] 0 0 (MQ below (jSl o) args s 0 0 (fun _ => False)) (F0 m 0 ls []) := by
    intro H hP hH
    have h := hf
    unfold f_X0_aloneAbove at h
    refine lv_lconst (v := (1 : Int64)) hx hb dX0_aloneAbove_0 (by decide) ?_
    refine lv_lstore_n (lv' := [(2, .long (1 : Int64)), (0, .ref (qa 0)), (1, .int a1)]) hx hb dX0_aloneAbove_1 rfl hl (by decide) rfl (fun ls hl => ?_)
    refine lv_lconst (v := (1 : Int64)) hx hb dX0_aloneAbove_2 (by decide) ?_
    refine lv_lstore (lv' := [(4, .long (1 : Int64)), (2, .long (1 : Int64)), (0, .ref (qa 0)), (1, .int a1)]) hx hb dX0_aloneAbove_3 hl (by decide) rfl (fun ls hl => ?_)
    refine lv_iconst (v := (0 : Int32)) hx hb dX0_aloneAbove_5 (by decide) ?_
    refine lv_istore (lv' := [(6, .int (0 : Int32)), (4, .long (1 : Int64)), (2, .long (1 : Int64)), (0, .ref (qa 0)), (1, .int a1)]) hx hb dX0_aloneAbove_6 hl (by decide) rfl (fun ls hl => ?_)
    obtain ⟨r1, hz1, h1_⟩ := jb h
    have hex1 : ∀ e1 : (Int64 × Int64), r1 = e1 → ∀ (ls : Array Slot), lv_has ls 7 [(2, .long e1.1), (4, .long e1.2)] → W p l e rm_X0_aloneAbove s m args below meth c H [] 0 0 (MQ below (jSl o) args s 0 0 (fun _ => False)) (F0 m 45 ls []) := by
      intro e1 he ls hl
      rw [he] at h1_
      have h := h1_
      clear hz1
      refine lv_lload_n hx hb dX0_aloneAbove_45 rfl (lv_at hl 0 rfl) ?_
      refine lv_lload hx hb dX0_aloneAbove_46 (lv_at hl 1 rfl) ?_
      refine lv_lsub hx hb dX0_aloneAbove_48 ?_
      exact W.lret hx hb hr (fun t ht _ => ⟨_, rfl, Option.some.inj h, ht.trans hH⟩) (fun q h => by cases h) dX0_aloneAbove_49 hlocks
    have hlp1 : ∀ (nn : Nat) (z1 : (Int64 × Int64 × Int32)), jw (X0_aloneAbove_s8 a1 vh) nn z1 = some r1 → ∀ (ls : Array Slot), lv_has ls 7 [(0, .ref (qa 0)), (1, .int a1), (2, .long z1.1), (4, .long z1.2.1), (6, .int z1.2.2)] → W p l e rm_X0_aloneAbove s m args below meth c H [] 0 0 (MQ below (jSl o) args s 0 0 (fun _ => False)) (F0 m 8 ls []) := by
      refine jw_P (r := r1) (P := fun z1 : (Int64 × Int64 × Int32) => ∀ (ls : Array Slot), lv_has ls 7 [(0, .ref (qa 0)), (1, .int a1), (2, .long z1.1), (4, .long z1.2.1), (6, .int z1.2.2)] → W p l e rm_X0_aloneAbove s m args below meth c H [] 0 0 (MQ below (jSl o) args s 0 0 (fun _ => False)) (F0 m 8 ls [])) ?_
      intro z1 x1 h hin hout ls hl
      unfold X0_aloneAbove_s8 at h
      refine lv_iload hx hb dX0_aloneAbove_8 (lv_at hl 4 rfl) ?_
      refine lv_aload_n hx hb dX0_aloneAbove_10 rfl (lv_at hl 0 rfl) ?_
      refine va_get (D := D) (ci := 0) (v := .int (vh.2 1)) (C := RX0) (T := TX0) (N := 12) hx hb hts in_X0_aloneAbove_X0 hown hK.1 hP 0 rfl rfl 9 (by decide) (hts _ kw_X0_aloneAbove_1) (fun _ h9 => h9) rfl dX0_aloneAbove_11 ?_
      refine lv_icmp_ge (tgt := 45) hx hb dX0_aloneAbove_14 (by decide) (fun c2 => ?_) (fun c2 => ?_)
      · have h := jt c2 h
        exact hex1 _ (hout _ (Option.some.inj h).symm).symm ls (lv_sub hl [2, 3] rfl)
      · have h := jf c2 h
        refine lv_lload_n hx hb dX0_aloneAbove_17 rfl (lv_at hl 2 rfl) ?_
        refine lv_ldc2 (v := (10 : Int64)) hx hb hown (hts _ kw_X0_aloneAbove_2) dX0_aloneAbove_18 ?_
        refine lv_lmul hx hb dX0_aloneAbove_21 ?_
        refine lv_lstore_n (lv' := [(2, .long (z1.1 * (10 : Int64))), (0, .ref (qa 0)), (1, .int a1), (4, .long z1.2.1), (6, .int z1.2.2)]) hx hb dX0_aloneAbove_22 rfl hl (by decide) rfl (fun ls hl => ?_)
        refine lv_lload hx hb dX0_aloneAbove_23 (lv_at hl 3 rfl) ?_
        refine lv_bipush (v := (10 : Int32)) hx hb dX0_aloneAbove_25 (by decide) ?_
        refine lv_aload_n hx hb dX0_aloneAbove_27 rfl (lv_at hl 1 rfl) ?_
        refine lv_iload hx hb dX0_aloneAbove_28 (lv_at hl 4 rfl) ?_
        refine lv_iload_n hx hb dX0_aloneAbove_30 rfl (lv_at hl 2 rfl) ?_
        obtain ⟨z3, hz3, h⟩ := jb h
        refine jki (jrV (As := [.int z1.2.2, .int a1]) (rest := [.int (10 : Int32), .long z1.2.1]) ⟨hx, hb, hml, hown, hts⟩ (c_X0_dangerAt l D cyI cyZ cyT qa  z1.2.2 a1 vh z3 hz3) (cwV 2 hts gX0_aloneAbove_X0_dangerAt rfl rfl rfl (by decide +kernel) ⟨Nat.le_of_ble_eq_true rfl, Nat.le_of_ble_eq_true rfl⟩) hK hP rfl 0 0 rfl rfl rfl hl.1 (Nat.le_of_ble_eq_true rfl) dX0_aloneAbove_31 ⟨Nat.le_of_ble_eq_true rfl, Nat.le_of_ble_eq_true rfl⟩) ?_
        clear hz3
        refine lv_isub hx hb dX0_aloneAbove_34 ?_
        refine lv_i2l (v := ((10 : Int32) - z3).toInt64) hx hb dX0_aloneAbove_35 rfl ?_
        refine lv_lmul hx hb dX0_aloneAbove_36 ?_
        refine lv_lstore (lv' := [(4, .long (z1.2.1 * (((10 : Int32) - z3).toInt64))), (2, .long (z1.1 * (10 : Int64))), (0, .ref (qa 0)), (1, .int a1), (6, .int z1.2.2)]) hx hb dX0_aloneAbove_37 hl (by decide) rfl (fun ls hl => ?_)
        refine lv_iinc (v := z1.2.2 + (1 : Int32)) (lv' := [(6, .int (z1.2.2 + (1 : Int32))), (4, .long (z1.2.1 * (((10 : Int32) - z3).toInt64))), (2, .long (z1.1 * (10 : Int64))), (0, .ref (qa 0)), (1, .int a1)]) hx hb dX0_aloneAbove_39 hl (k := 4) rfl rfl (by decide) rfl (fun ls hl => ?_)
        refine lv_goto (tgt := 8) hx hb dX0_aloneAbove_42 (by decide) ?_
        exact hin _ (Option.some.inj h).symm ls (lv_sub hl [3, 4, 2, 1, 0] rfl)
    exact hlp1 _ _ hz1 ls (lv_sub hl [3, 4, 2, 1, 0] rfl)
  exact key s.heap hP rfl
theorem kw_X0_empty_1 : (.fieldLink RX0 40 "BellTheCat$House" "miceCount" "I" : Cond) ∈ wsX0_empty := List.mem_of_getElem? (i := 1) rfl
theorem kw_X0_empty_2 : (.fieldLink RX0 43 "BellTheCat$House" "stepCount" "I" : Cond) ∈ wsX0_empty := List.mem_of_getElem? (i := 2) rfl
theorem kw_X0_empty_3 : (.fieldLink RX0 46 "BellTheCat$House" "ratCount" "I" : Cond) ∈ wsX0_empty := List.mem_of_getElem? (i := 3) rfl
theorem kw_X0_empty_4 : (.fieldLink RX0 36 "BellTheCat$House" "gain" "I" : Cond) ∈ wsX0_empty := List.mem_of_getElem? (i := 4) rfl
theorem in_X0_empty_X0 : ∀ w ∈ wsX00, w ∈ wsX0_empty := fun w h => List.mem_cons_of_mem _ (List.mem_append_right _ h)
abbrev rm_X0_empty : Room := { frames := 0, cells := 0, slots := 0, locals := 0 }
set_option maxHeartbeats 4000000 in
set_option maxRecDepth 100000 in
theorem c_X0_empty (l : Launch) (D : va_G) (cyI cyZ cyT : ClassId) (qa : Nat → Nat) (sz : Nat) (vh : Mo) (o : Mo) (hf : f_X0_empty vh = some o) : Met l yX0_empty wsX0_empty rm_X0_empty (va_Pc [.ref (qa 0)] (jM D cyI cyZ cyT (wH cyI qa vh) sz)) (jQv D (va_A (wH cyI qa vh) sz) (fun u : Mo => wH cyI qa u) o) 0 0 (va_A (wH cyI qa vh) sz) := by
  refine Met.ofW (cc := cX0_empty) (maxL := 1) (ret := none) (by decide) rfl ?_
  intro p e s m args below meth c s₁ B hml hv
  obtain ⟨rfl, hsz, hP, hK, hD0⟩ := hv
  have hx := B.exec
  have hb := B.bytes
  have hr := B.returns
  have hts := atoms_spec (ws := wsX0_empty) B.pre
  have hown : s.vm.findClass RX0 = some m.cls := findClass_of_methodNamed B.named
  have hlocks := B.notSynchronized
  subst hsz
  have hD := hD0.self (sz := s.heap.size)
  generalize hAe : va_A (wH cyI qa vh) s.heap.size = A at hD ⊢
  have hA : ∀ q : Nat, s.heap.size ≤ q → A q := fun q h => by rw [← hAe]; exact Or.inr h
  have hS : va_S A s.heap s.heap [] := va_S.rf
  have hl := lv_entry ([.ref (qa 0)]) (n := 1) (Nat.le_of_ble_eq_true rfl)
  rw [lg_entry_eq]
  generalize (lg_sl ([.ref (qa 0)]) ++ List.replicate (1 - (lg_sl ([.ref (qa 0)])).length) Slot.unset).toArray = ls at hl ⊢
  have hl : lv_has ls 1 [(0, .ref (qa 0))] := hl
  clear B
  generalize ([.ref (qa 0)] : List Value).toArray = args at hts ⊢
  have key : ∀ (H : Heap) (locs : List Loc), va_P D vwCl (wH cyI qa vh) H → va_D A (wH cyI qa vh) → va_S A s.heap H locs → W p l e rm_X0_empty s m args below meth c H locs 0 0 (MQ below (jQv D A (fun u : Mo => wH cyI qa u) o) args s 0 0 A) (F0 m 0 ls []) := by
    intro H locs hP hD hS
    have h := hf
    unfold f_X0_empty at h
    refine lv_aload_n hx hb dX0_empty_0 rfl (lv_at hl 0 rfl) ?_
    refine lv_iconst (v := (0 : Int32)) hx hb dX0_empty_1 (by decide) ?_
    refine va_put (D := D) (ci := 0) (v := .int (0 : Int32)) (ty := .int) (C := RX0) (T := TX0) (N := 12) hx hb hts in_X0_empty_X0 tyX0 tyX0_ok nmX0 hown hK.1 hP hD hS 0 rfl rfl 8 (by decide) (hts _ kw_X0_empty_1) (fun _ h9 => h9) rfl (tyX0_ok 8 (by decide)) rfl rfl (Nat.le_of_ble_eq_true rfl) dX0_empty_2 (fun H locs hP hD hS => ?_)
    have hP : va_P D vwCl (wH cyI qa (vh.1, va_up vh.2 0 (0 : Int32))) H := hP
    have hD : va_D A (wH cyI qa (vh.1, va_up vh.2 0 (0 : Int32))) := hD
    refine lv_aload_n hx hb dX0_empty_5 rfl (lv_at hl 0 rfl) ?_
    refine lv_iconst (v := (0 : Int32)) hx hb dX0_empty_6 (by decide) ?_
    refine va_put (D := D) (ci := 0) (v := .int (0 : Int32)) (ty := .int) (C := RX0) (T := TX0) (N := 12) hx hb hts in_X0_empty_X0 tyX0 tyX0_ok nmX0 hown hK.1 hP hD hS 0 rfl rfl 9 (by decide) (hts _ kw_X0_empty_2) (fun _ h9 => h9) rfl (tyX0_ok 9 (by decide)) rfl rfl (Nat.le_of_ble_eq_true rfl) dX0_empty_7 (fun H locs hP hD hS => ?_)
    have hP : va_P D vwCl (wH cyI qa (vh.1, va_up (va_up vh.2 0 (0 : Int32)) 1 (0 : Int32))) H := hP
    have hD : va_D A (wH cyI qa (vh.1, va_up (va_up vh.2 0 (0 : Int32)) 1 (0 : Int32))) := hD
    refine lv_aload_n hx hb dX0_empty_10 rfl (lv_at hl 0 rfl) ?_
    refine lv_iconst (v := (0 : Int32)) hx hb dX0_empty_11 (by decide) ?_
    refine va_put (D := D) (ci := 0) (v := .int (0 : Int32)) (ty := .int) (C := RX0) (T := TX0) (N := 12) hx hb hts in_X0_empty_X0 tyX0 tyX0_ok nmX0 hown hK.1 hP hD hS 0 rfl rfl 10 (by decide) (hts _ kw_X0_empty_3) (fun _ h9 => h9) rfl (tyX0_ok 10 (by decide)) rfl rfl (Nat.le_of_ble_eq_true rfl) dX0_empty_12 (fun H locs hP hD hS => ?_)
    have hP : va_P D vwCl (wH cyI qa (vh.1, va_up (va_up (va_up vh.2 0 (0 : Int32)) 1 (0 : Int32)) 2 (0 : Int32))) H := hP
    have hD : va_D A (wH cyI qa (vh.1, va_up (va_up (va_up vh.2 0 (0 : Int32)) 1 (0 : Int32)) 2 (0 : Int32))) := hD
    refine lv_aload_n hx hb dX0_empty_15 rfl (lv_at hl 0 rfl) ?_
    refine lv_bipush (v := (20 : Int32)) hx hb dX0_empty_16 (by decide) ?_
    refine va_put (D := D) (ci := 0) (v := .int (20 : Int32)) (ty := .int) (C := RX0) (T := TX0) (N := 12) hx hb hts in_X0_empty_X0 tyX0 tyX0_ok nmX0 hown hK.1 hP hD hS 0 rfl rfl 11 (by decide) (hts _ kw_X0_empty_4) (fun _ h9 => h9) rfl (tyX0_ok 11 (by decide)) rfl rfl (Nat.le_of_ble_eq_true rfl) dX0_empty_18 (fun H locs hP hD hS => ?_)
    have hP : va_P D vwCl (wH cyI qa (vh.1, va_up (va_up (va_up (va_up vh.2 0 (0 : Int32)) 1 (0 : Int32)) 2 (0 : Int32)) 3 (20 : Int32))) H := hP
    have hD : va_D A (wH cyI qa (vh.1, va_up (va_up (va_up (va_up vh.2 0 (0 : Int32)) 1 (0 : Int32)) 2 (0 : Int32)) 3 (20 : Int32))) := hD
    exact W.vret hx hb hr (fun t ht _ => ⟨⟨_, rfl, Option.some.inj h, by rw [ht]; exact hP, hD⟩, hS.F ht⟩) hS.2.2 dX0_empty_21 hlocks
  exact key s.heap [] hP hD hS
theorem kw_X0_takes_1 : (.fieldLink RX0 40 "BellTheCat$House" "miceCount" "I" : Cond) ∈ wsX0_takes := List.mem_of_getElem? (i := 1) rfl
theorem kw_X0_takes_2 : (.fieldLink RX0 43 "BellTheCat$House" "stepCount" "I" : Cond) ∈ wsX0_takes := List.mem_of_getElem? (i := 2) rfl
theorem kw_X0_takes_3 : (.fieldLink RX0 46 "BellTheCat$House" "ratCount" "I" : Cond) ∈ wsX0_takes := List.mem_of_getElem? (i := 3) rfl
theorem in_X0_takes_X0 : ∀ w ∈ wsX00, w ∈ wsX0_takes := fun w h => List.mem_cons_of_mem _ (List.mem_append_right _ h)
abbrev rm_X0_takes : Room := { frames := 0, cells := 0, slots := 0, locals := 0 }
set_option maxHeartbeats 4000000 in
set_option maxRecDepth 100000 in
theorem c_X0_takes (l : Launch) (D : va_G) (cyI cyZ cyT : ClassId) (qa : Nat → Nat) (a1 : Int32) (vh : Mo) (o : Int32) (hf : f_X0_takes a1 vh = some o) : Met l yX0_takes wsX0_takes rm_X0_takes (va_Pc [.ref (qa 0), .int a1] (jB D cyI cyZ cyT (wH cyI qa vh))) (jSi o) 0 0 (fun _ => False) := by
  refine Met.ofW (cc := cX0_takes) (maxL := 2) (ret := (some .boolean)) (by decide) rfl ?_
  intro p e s m args below meth c s₁ B hml hv
  obtain ⟨rfl, hP, hK⟩ := hv
  have hx := B.exec
  have hb := B.bytes
  have hr := B.returns
  have hts := atoms_spec (ws := wsX0_takes) B.pre
  have hown : s.vm.findClass RX0 = some m.cls := findClass_of_methodNamed B.named
  have hlocks := B.notSynchronized
  have hl := lv_entry ([.ref (qa 0), .int a1]) (n := 2) (Nat.le_of_ble_eq_true rfl)
  rw [lg_entry_eq]
  generalize (lg_sl ([.ref (qa 0), .int a1]) ++ List.replicate (2 - (lg_sl ([.ref (qa 0), .int a1])).length) Slot.unset).toArray = ls at hl ⊢
  have hl : lv_has ls 2 [(0, .ref (qa 0)), (1, .int a1)] := hl
  clear B
  generalize ([.ref (qa 0), .int a1] : List Value).toArray = args at hts ⊢
  have key : ∀ (H : Heap), va_P D vwCl (wH cyI qa vh) H → H = s.heap → W p l e rm_X0_takes s m args below meth c H [] 0 0 (MQ below (jSi o) args s 0 0 (fun _ => False)) (F0 m 0 ls []) := by
    intro H hP hH
    have h := hf
    unfold f_X0_takes at h
    refine lv_iload_n hx hb dX0_takes_0 rfl (lv_at hl 1 rfl) ?_
    by_cases c1 : a1 = (0 : Int32)
    · have h := jt c1 h
      refine lv_tableIn (off := 39) (tgt := 40) hx hb dX0_takes_1 (by rw [c1]; decide) (by rw [c1]; decide) (by rw [c1]; rfl) (by decide) ?_
      refine lv_aload_n hx hb dX0_takes_40 rfl (lv_at hl 0 rfl) ?_
      refine va_get (D := D) (ci := 0) (v := .int (vh.2 0)) (C := RX0) (T := TX0) (N := 12) hx hb hts in_X0_takes_X0 hown hK.1 hP 0 rfl rfl 8 (by decide) (hts _ kw_X0_takes_1) (fun _ h9 => h9) rfl dX0_takes_41 ?_
      refine lv_bipush (v := (6 : Int32)) hx hb dX0_takes_44 (by decide) ?_
      refine lv_icmp_ge (tgt := 53) hx hb dX0_takes_46 (by decide) (fun c2 => ?_) (fun c2 => ?_)
      · have h := jt c2 h
        refine lv_iconst (v := (0 : Int32)) hx hb dX0_takes_53 (by decide) ?_
        exact W.zret hx hb hr rfl (fun t ht _ => ⟨_, rfl, Option.some.inj h, ht.trans hH⟩) (fun q h => by cases h) dX0_takes_54 hlocks
      · have h := jf c2 h
        refine lv_iconst (v := (1 : Int32)) hx hb dX0_takes_49 (by decide) ?_
        refine lv_goto (tgt := 54) hx hb dX0_takes_50 (by decide) ?_
        exact W.zret hx hb hr rfl (fun t ht _ => ⟨_, rfl, Option.some.inj h, ht.trans hH⟩) (fun q h => by cases h) dX0_takes_54 hlocks
    have h := jf c1 h
    by_cases c3 : a1 = (1 : Int32)
    · have h := jt c3 h
      refine lv_tableIn (off := 39) (tgt := 40) hx hb dX0_takes_1 (by rw [c3]; decide) (by rw [c3]; decide) (by rw [c3]; rfl) (by decide) ?_
      refine lv_aload_n hx hb dX0_takes_40 rfl (lv_at hl 0 rfl) ?_
      refine va_get (D := D) (ci := 0) (v := .int (vh.2 0)) (C := RX0) (T := TX0) (N := 12) hx hb hts in_X0_takes_X0 hown hK.1 hP 0 rfl rfl 8 (by decide) (hts _ kw_X0_takes_1) (fun _ h9 => h9) rfl dX0_takes_41 ?_
      refine lv_bipush (v := (6 : Int32)) hx hb dX0_takes_44 (by decide) ?_
      refine lv_icmp_ge (tgt := 53) hx hb dX0_takes_46 (by decide) (fun c4 => ?_) (fun c4 => ?_)
      · have h := jt c4 h
        refine lv_iconst (v := (0 : Int32)) hx hb dX0_takes_53 (by decide) ?_
        exact W.zret hx hb hr rfl (fun t ht _ => ⟨_, rfl, Option.some.inj h, ht.trans hH⟩) (fun q h => by cases h) dX0_takes_54 hlocks
      · have h := jf c4 h
        refine lv_iconst (v := (1 : Int32)) hx hb dX0_takes_49 (by decide) ?_
        refine lv_goto (tgt := 54) hx hb dX0_takes_50 (by decide) ?_
        exact W.zret hx hb hr rfl (fun t ht _ => ⟨_, rfl, Option.some.inj h, ht.trans hH⟩) (fun q h => by cases h) dX0_takes_54 hlocks
    have h := jf c3 h
    by_cases c5 : a1 = (2 : Int32)
    · have h := jt c5 h
      refine lv_tableIn (off := 39) (tgt := 40) hx hb dX0_takes_1 (by rw [c5]; decide) (by rw [c5]; decide) (by rw [c5]; rfl) (by decide) ?_
      refine lv_aload_n hx hb dX0_takes_40 rfl (lv_at hl 0 rfl) ?_
      refine va_get (D := D) (ci := 0) (v := .int (vh.2 0)) (C := RX0) (T := TX0) (N := 12) hx hb hts in_X0_takes_X0 hown hK.1 hP 0 rfl rfl 8 (by decide) (hts _ kw_X0_takes_1) (fun _ h9 => h9) rfl dX0_takes_41 ?_
      refine lv_bipush (v := (6 : Int32)) hx hb dX0_takes_44 (by decide) ?_
      refine lv_icmp_ge (tgt := 53) hx hb dX0_takes_46 (by decide) (fun c6 => ?_) (fun c6 => ?_)
      · have h := jt c6 h
        refine lv_iconst (v := (0 : Int32)) hx hb dX0_takes_53 (by decide) ?_
        exact W.zret hx hb hr rfl (fun t ht _ => ⟨_, rfl, Option.some.inj h, ht.trans hH⟩) (fun q h => by cases h) dX0_takes_54 hlocks
      · have h := jf c6 h
        refine lv_iconst (v := (1 : Int32)) hx hb dX0_takes_49 (by decide) ?_
        refine lv_goto (tgt := 54) hx hb dX0_takes_50 (by decide) ?_
        exact W.zret hx hb hr rfl (fun t ht _ => ⟨_, rfl, Option.some.inj h, ht.trans hH⟩) (fun q h => by cases h) dX0_takes_54 hlocks
    have h := jf c5 h
    by_cases c7 : a1 = (3 : Int32)
    · have h := jt c7 h
      refine lv_tableIn (off := 39) (tgt := 40) hx hb dX0_takes_1 (by rw [c7]; decide) (by rw [c7]; decide) (by rw [c7]; rfl) (by decide) ?_
      refine lv_aload_n hx hb dX0_takes_40 rfl (lv_at hl 0 rfl) ?_
      refine va_get (D := D) (ci := 0) (v := .int (vh.2 0)) (C := RX0) (T := TX0) (N := 12) hx hb hts in_X0_takes_X0 hown hK.1 hP 0 rfl rfl 8 (by decide) (hts _ kw_X0_takes_1) (fun _ h9 => h9) rfl dX0_takes_41 ?_
      refine lv_bipush (v := (6 : Int32)) hx hb dX0_takes_44 (by decide) ?_
      refine lv_icmp_ge (tgt := 53) hx hb dX0_takes_46 (by decide) (fun c8 => ?_) (fun c8 => ?_)
      · have h := jt c8 h
        refine lv_iconst (v := (0 : Int32)) hx hb dX0_takes_53 (by decide) ?_
        exact W.zret hx hb hr rfl (fun t ht _ => ⟨_, rfl, Option.some.inj h, ht.trans hH⟩) (fun q h => by cases h) dX0_takes_54 hlocks
      · have h := jf c8 h
        refine lv_iconst (v := (1 : Int32)) hx hb dX0_takes_49 (by decide) ?_
        refine lv_goto (tgt := 54) hx hb dX0_takes_50 (by decide) ?_
        exact W.zret hx hb hr rfl (fun t ht _ => ⟨_, rfl, Option.some.inj h, ht.trans hH⟩) (fun q h => by cases h) dX0_takes_54 hlocks
    have h := jf c7 h
    by_cases c9 : a1 = (4 : Int32)
    · have h := jt c9 h
      refine lv_tableIn (off := 54) (tgt := 55) hx hb dX0_takes_1 (by rw [c9]; decide) (by rw [c9]; decide) (by rw [c9]; rfl) (by decide) ?_
      refine lv_aload_n hx hb dX0_takes_55 rfl (lv_at hl 0 rfl) ?_
      refine va_get (D := D) (ci := 0) (v := .int (vh.2 1)) (C := RX0) (T := TX0) (N := 12) hx hb hts in_X0_takes_X0 hown hK.1 hP 0 rfl rfl 9 (by decide) (hts _ kw_X0_takes_2) (fun _ h9 => h9) rfl dX0_takes_56 ?_
      refine lv_iconst (v := (5 : Int32)) hx hb dX0_takes_59 (by decide) ?_
      refine lv_icmp_ge (tgt := 67) hx hb dX0_takes_60 (by decide) (fun c10 => ?_) (fun c10 => ?_)
      · have h := jt c10 h
        refine lv_iconst (v := (0 : Int32)) hx hb dX0_takes_67 (by decide) ?_
        exact W.zret hx hb hr rfl (fun t ht _ => ⟨_, rfl, Option.some.inj h, ht.trans hH⟩) (fun q h => by cases h) dX0_takes_68 hlocks
      · have h := jf c10 h
        refine lv_iconst (v := (1 : Int32)) hx hb dX0_takes_63 (by decide) ?_
        refine lv_goto (tgt := 68) hx hb dX0_takes_64 (by decide) ?_
        exact W.zret hx hb hr rfl (fun t ht _ => ⟨_, rfl, Option.some.inj h, ht.trans hH⟩) (fun q h => by cases h) dX0_takes_68 hlocks
    have h := jf c9 h
    by_cases c11 : a1 = (5 : Int32)
    · have h := jt c11 h
      refine lv_tableIn (off := 68) (tgt := 69) hx hb dX0_takes_1 (by rw [c11]; decide) (by rw [c11]; decide) (by rw [c11]; rfl) (by decide) ?_
      refine lv_aload_n hx hb dX0_takes_69 rfl (lv_at hl 0 rfl) ?_
      refine va_get (D := D) (ci := 0) (v := .int (vh.2 2)) (C := RX0) (T := TX0) (N := 12) hx hb hts in_X0_takes_X0 hown hK.1 hP 0 rfl rfl 10 (by decide) (hts _ kw_X0_takes_3) (fun _ h9 => h9) rfl dX0_takes_70 ?_
      refine lv_iconst (v := (4 : Int32)) hx hb dX0_takes_73 (by decide) ?_
      refine lv_icmp_ge (tgt := 81) hx hb dX0_takes_74 (by decide) (fun c12 => ?_) (fun c12 => ?_)
      · have h := jt c12 h
        refine lv_iconst (v := (0 : Int32)) hx hb dX0_takes_81 (by decide) ?_
        exact W.zret hx hb hr rfl (fun t ht _ => ⟨_, rfl, Option.some.inj h, ht.trans hH⟩) (fun q h => by cases h) dX0_takes_82 hlocks
      · have h := jf c12 h
        refine lv_iconst (v := (1 : Int32)) hx hb dX0_takes_77 (by decide) ?_
        refine lv_goto (tgt := 82) hx hb dX0_takes_78 (by decide) ?_
        exact W.zret hx hb hr rfl (fun t ht _ => ⟨_, rfl, Option.some.inj h, ht.trans hH⟩) (fun q h => by cases h) dX0_takes_82 hlocks
    have h := jf c11 h
    refine lv_tableOut (tgt := 83) hx hb dX0_takes_1 (by have d0 := jne (z := 0) rfl c1; have d1 := jne (z := 1) rfl c3; have d2 := jne (z := 2) rfl c5; have d3 := jne (z := 3) rfl c7; have d4 := jne (z := 4) rfl c9; have d5 := jne (z := 5) rfl c11; omega) (by decide) ?_
    refine lv_iload_n hx hb dX0_takes_83 rfl (lv_at hl 1 rfl) ?_
    refine lv_iconst (v := (-1 : Int32)) hx hb dX0_takes_84 (by decide) ?_
    refine lv_icmp_eq (tgt := 92) hx hb dX0_takes_85 (by decide) (fun c13 => ?_) (fun c13 => ?_)
    · have h := jt c13 h
      refine lv_iconst (v := (0 : Int32)) hx hb dX0_takes_92 (by decide) ?_
      exact W.zret hx hb hr rfl (fun t ht _ => ⟨_, rfl, Option.some.inj h, ht.trans hH⟩) (fun q h => by cases h) dX0_takes_93 hlocks
    · have h := jf c13 h
      refine lv_iconst (v := (1 : Int32)) hx hb dX0_takes_88 (by decide) ?_
      refine lv_goto (tgt := 93) hx hb dX0_takes_89 (by decide) ?_
      exact W.zret hx hb hr rfl (fun t ht _ => ⟨_, rfl, Option.some.inj h, ht.trans hH⟩) (fun q h => by cases h) dX0_takes_93 hlocks
  exact key s.heap hP rfl
theorem kw_X0_apply_1 : (.fieldLink RX0 24 "BellTheCat$House" "noises" "[I" : Cond) ∈ wsX0_apply := List.mem_of_getElem? (i := 1) rfl
theorem kw_X0_apply_2 : (.fieldLink RX0 43 "BellTheCat$House" "stepCount" "I" : Cond) ∈ wsX0_apply := List.mem_of_getElem? (i := 2) rfl
theorem kw_X0_apply_3 : (.fieldLink RX0 36 "BellTheCat$House" "gain" "I" : Cond) ∈ wsX0_apply := List.mem_of_getElem? (i := 3) rfl
theorem in_X0_apply_X0 : ∀ w ∈ wsX00, w ∈ wsX0_apply := fun w h => List.mem_cons_of_mem _ (List.mem_append_right _ h)
abbrev rm_X0_apply : Room := { frames := 1, cells := 0, slots := 0, locals := 24 }
set_option maxHeartbeats 4000000 in
set_option maxRecDepth 100000 in
theorem c_X0_apply (l : Launch) (D : va_G) (cyI cyZ cyT : ClassId) (qa : Nat → Nat) (sz : Nat) (a1 : Int32) (a2 : Int32) (a3 : Int32) (a4 : Int32) (vh : Mo) (o : Mo) (hf : f_X0_apply a1 a2 a3 a4 vh = some o) : Met l yX0_apply wsX0_apply rm_X0_apply (va_Pc [.ref (qa 0), .int a1, .int a2, .int a3, .int a4] (jM D cyI cyZ cyT (wH cyI qa vh) sz)) (jQv D (va_A (wH cyI qa vh) sz) (fun u : Mo => wH cyI qa u) o) 0 0 (va_A (wH cyI qa vh) sz) := by
  refine Met.ofW (cc := cX0_apply) (maxL := 5) (ret := none) (by decide) rfl ?_
  intro p e s m args below meth c s₁ B hml hv
  obtain ⟨rfl, hsz, hP, hK, hD0⟩ := hv
  have hx := B.exec
  have hb := B.bytes
  have hr := B.returns
  have hts := atoms_spec (ws := wsX0_apply) B.pre
  have hown : s.vm.findClass RX0 = some m.cls := findClass_of_methodNamed B.named
  have hlocks := B.notSynchronized
  subst hsz
  have hD := hD0.self (sz := s.heap.size)
  generalize hAe : va_A (wH cyI qa vh) s.heap.size = A at hD ⊢
  have hA : ∀ q : Nat, s.heap.size ≤ q → A q := fun q h => by rw [← hAe]; exact Or.inr h
  have hS : va_S A s.heap s.heap [] := va_S.rf
  have hl := lv_entry ([.ref (qa 0), .int a1, .int a2, .int a3, .int a4]) (n := 5) (Nat.le_of_ble_eq_true rfl)
  rw [lg_entry_eq]
  generalize (lg_sl ([.ref (qa 0), .int a1, .int a2, .int a3, .int a4]) ++ List.replicate (5 - (lg_sl ([.ref (qa 0), .int a1, .int a2, .int a3, .int a4])).length) Slot.unset).toArray = ls at hl ⊢
  have hl : lv_has ls 5 [(0, .ref (qa 0)), (1, .int a1), (2, .int a2), (3, .int a3), (4, .int a4)] := hl
  clear B
  generalize ([.ref (qa 0), .int a1, .int a2, .int a3, .int a4] : List Value).toArray = args at hts ⊢
  have key : ∀ (H : Heap) (locs : List Loc), va_P D vwCl (wH cyI qa vh) H → va_D A (wH cyI qa vh) → va_S A s.heap H locs → W p l e rm_X0_apply s m args below meth c H locs 0 0 (MQ below (jQv D A (fun u : Mo => wH cyI qa u) o) args s 0 0 A) (F0 m 0 ls []) := by
    intro H locs hP hD hS
    have h := hf
    unfold f_X0_apply at h
    refine lv_aload_n hx hb dX0_apply_0 rfl (lv_at hl 0 rfl) ?_
    refine lv_iload_n hx hb dX0_apply_1 rfl (lv_at hl 1 rfl) ?_
    obtain ⟨z1, hz1, h⟩ := jb h
    refine jki (jrV (As := [.int a1]) (rest := []) ⟨hx, hb, hml, hown, hts⟩ (c_X0_takes l D cyI cyZ cyT qa  a1 vh z1 hz1) (cwV 1 hts gX0_apply_X0_takes rfl rfl rfl (by decide +kernel) ⟨Nat.le_of_ble_eq_true rfl, Nat.le_of_ble_eq_true rfl⟩) hK hP rfl 0 0 rfl rfl rfl hl.1 (Nat.le_of_ble_eq_true rfl) dX0_apply_2 ⟨Nat.le_of_ble_eq_true rfl, Nat.le_of_ble_eq_true rfl⟩) ?_
    clear hz1
    refine lv_if_ne (tgt := 9) hx hb dX0_apply_5 (by decide) (fun c2 => ?_) (fun c2 => ?_)
    · have h := jf c2 h
      refine lv_iload_n hx hb dX0_apply_9 rfl (lv_at hl 1 rfl) ?_
      by_cases c3 : a1 = (4 : Int32)
      · have h := jt c3 h
        refine lv_tableIn (off := 34) (tgt := 44) hx hb dX0_apply_10 (by rw [c3]; decide) (by rw [c3]; decide) (by rw [c3]; rfl) (by decide) ?_
        refine lv_aload_n hx hb dX0_apply_44 rfl (lv_at hl 0 rfl) ?_
        refine va_get (D := D) (ci := 0) (v := .ref (qa 5)) (C := RX0) (T := TX0) (N := 12) hx hb hts in_X0_apply_X0 hown hK.1 hP 0 rfl rfl 4 (by decide) (hts _ kw_X0_apply_1) (fun _ h9 => h9) rfl dX0_apply_45 ?_
        refine lv_aload_n hx hb dX0_apply_48 rfl (lv_at hl 0 rfl) ?_
        refine lv_dup hx hb dX0_apply_49 rfl ?_
        refine va_get (D := D) (ci := 0) (v := .int (vh.2 1)) (C := RX0) (T := TX0) (N := 12) hx hb hts in_X0_apply_X0 hown hK.1 hP 0 rfl rfl 9 (by decide) (hts _ kw_X0_apply_2) (fun _ h9 => h9) rfl dX0_apply_50 ?_
        refine lv_dup_x1 hx hb dX0_apply_53 rfl rfl ?_
        refine lv_iconst (v := (1 : Int32)) hx hb dX0_apply_54 (by decide) ?_
        refine lv_iadd hx hb dX0_apply_55 ?_
        refine va_put (D := D) (ci := 0) (v := .int ((vh.2 1) + (1 : Int32))) (ty := .int) (C := RX0) (T := TX0) (N := 12) hx hb hts in_X0_apply_X0 tyX0 tyX0_ok nmX0 hown hK.1 hP hD hS 0 rfl rfl 9 (by decide) (hts _ kw_X0_apply_2) (fun _ h9 => h9) rfl (tyX0_ok 9 (by decide)) rfl rfl (Nat.le_of_ble_eq_true rfl) dX0_apply_56 (fun H locs hP hD hS => ?_)
        have hP : va_P D vwCl (wH cyI qa (vh.1, va_up vh.2 1 ((vh.2 1) + (1 : Int32)))) H := hP
        have hD : va_D A (wH cyI qa (vh.1, va_up vh.2 1 ((vh.2 1) + (1 : Int32)))) := hD
        refine lv_iload_n hx hb dX0_apply_59 rfl (lv_at hl 2 rfl) ?_
        obtain ⟨g4, h⟩ := jn h
        refine jast (w' := wH cyI qa (va_up vh.1 4 (upd (vh.1 4) (vh.2 1).toNatClampNeg a2), va_up vh.2 1 ((vh.2 1) + (1 : Int32)))) hx hb hK hP hD hS 5 rfl _ rfl g4 rfl dX0_apply_60 (fun H locs hP hD hS => ?_)
        refine lv_goto (tgt := 107) hx hb dX0_apply_61 (by decide) ?_
        exact W.vret hx hb hr (fun t ht _ => ⟨⟨_, rfl, Option.some.inj h, by rw [ht]; exact hP, hD⟩, hS.F ht⟩) hS.2.2 dX0_apply_107 hlocks
      have h := jf c3 h
      by_cases c5 : a1 = (5 : Int32)
      · have h := jt c5 h
        refine lv_tableIn (off := 54) (tgt := 64) hx hb dX0_apply_10 (by rw [c5]; decide) (by rw [c5]; decide) (by rw [c5]; rfl) (by decide) ?_
        refine lv_aload_n hx hb dX0_apply_64 rfl (lv_at hl 0 rfl) ?_
        refine lv_iload_n hx hb dX0_apply_65 rfl (lv_at hl 2 rfl) ?_
        refine lv_iload_n hx hb dX0_apply_66 rfl (lv_at hl 3 rfl) ?_
        refine lv_iload hx hb dX0_apply_67 (lv_at hl 4 rfl) ?_
        obtain ⟨z6, hz6, h⟩ := jb h
        refine jgv (w1 := fun u : Mo => wH cyI qa u) (wn := wH cyI qa z6) (jmV (As := [.int a2, .int a3, .int a4]) (rest := []) ⟨hx, hb, hml, hown, hts⟩ (c_X0_addRat l D cyI cyZ cyT qa H.size a2 a3 a4 vh z6 hz6) (cwV 3 hts gX0_apply_X0_addRat rfl rfl rfl (by decide +kernel) ⟨Nat.le_of_ble_eq_true rfl, Nat.le_of_ble_eq_true rfl⟩) hK hP hD rfl 0 0 rfl rfl rfl hl.1 (Nat.le_of_ble_eq_true rfl) dX0_apply_69 ⟨Nat.le_of_ble_eq_true rfl, Nat.le_of_ble_eq_true rfl⟩) hP hD hS hA [0, 1, 2, 3, 4, 5, 6, 7, 8] [] [0, 1, 2, 3, 4, 5, 6, 7, 8] rfl rfl (by decide) (by decide) rfl (by decide) (fun H locs hP hD hS => ?_)
        clear hz6
        refine lv_goto (tgt := 107) hx hb dX0_apply_72 (by decide) ?_
        exact W.vret hx hb hr (fun t ht _ => ⟨⟨_, rfl, Option.some.inj h, by rw [ht]; exact hP, hD⟩, hS.F ht⟩) hS.2.2 dX0_apply_107 hlocks
      have h := jf c5 h
      by_cases c7 : a1 = (6 : Int32)
      · have h := jt c7 h
        refine lv_tableIn (off := 65) (tgt := 75) hx hb dX0_apply_10 (by rw [c7]; decide) (by rw [c7]; decide) (by rw [c7]; rfl) (by decide) ?_
        refine lv_aload_n hx hb dX0_apply_75 rfl (lv_at hl 0 rfl) ?_
        refine lv_iload_n hx hb dX0_apply_76 rfl (lv_at hl 2 rfl) ?_
        refine va_put (D := D) (ci := 0) (v := .int a2) (ty := .int) (C := RX0) (T := TX0) (N := 12) hx hb hts in_X0_apply_X0 tyX0 tyX0_ok nmX0 hown hK.1 hP hD hS 0 rfl rfl 11 (by decide) (hts _ kw_X0_apply_3) (fun _ h9 => h9) rfl (tyX0_ok 11 (by decide)) rfl rfl (Nat.le_of_ble_eq_true rfl) dX0_apply_77 (fun H locs hP hD hS => ?_)
        have hP : va_P D vwCl (wH cyI qa (vh.1, va_up vh.2 3 a2)) H := hP
        have hD : va_D A (wH cyI qa (vh.1, va_up vh.2 3 a2)) := hD
        refine lv_goto (tgt := 107) hx hb dX0_apply_80 (by decide) ?_
        exact W.vret hx hb hr (fun t ht _ => ⟨⟨_, rfl, Option.some.inj h, by rw [ht]; exact hP, hD⟩, hS.F ht⟩) hS.2.2 dX0_apply_107 hlocks
      have h := jf c7 h
      by_cases c8 : a1 = (7 : Int32)
      · have h := jt c8 h
        refine lv_tableIn (off := 73) (tgt := 83) hx hb dX0_apply_10 (by rw [c8]; decide) (by rw [c8]; decide) (by rw [c8]; rfl) (by decide) ?_
        refine lv_aload_n hx hb dX0_apply_83 rfl (lv_at hl 0 rfl) ?_
        obtain ⟨z9, hz9, h⟩ := jb h
        refine jgv (w1 := fun u : Mo => wH cyI qa u) (wn := wH cyI qa z9) (jmV (As := []) (rest := []) ⟨hx, hb, hml, hown, hts⟩ (c_X0_empty l D cyI cyZ cyT qa H.size vh z9 hz9) (cwV 0 hts gX0_apply_X0_empty rfl rfl rfl (by decide +kernel) ⟨Nat.le_of_ble_eq_true rfl, Nat.le_of_ble_eq_true rfl⟩) hK hP hD rfl 0 0 rfl rfl rfl hl.1 (Nat.le_of_ble_eq_true rfl) dX0_apply_84 ⟨Nat.le_of_ble_eq_true rfl, Nat.le_of_ble_eq_true rfl⟩) hP hD hS hA [0, 1, 2, 3, 4, 5, 6, 7, 8] [] [0, 1, 2, 3, 4, 5, 6, 7, 8] rfl rfl (by decide) (by decide) rfl (by decide) (fun H locs hP hD hS => ?_)
        clear hz9
        refine lv_goto (tgt := 107) hx hb dX0_apply_87 (by decide) ?_
        exact W.vret hx hb hr (fun t ht _ => ⟨⟨_, rfl, Option.some.inj h, by rw [ht]; exact hP, hD⟩, hS.F ht⟩) hS.2.2 dX0_apply_107 hlocks
      have h := jf c8 h
      by_cases c10 : a1 = (8 : Int32)
      · have h := jt c10 h
        refine lv_tableIn (off := 80) (tgt := 90) hx hb dX0_apply_10 (by rw [c10]; decide) (by rw [c10]; decide) (by rw [c10]; rfl) (by decide) ?_
        refine lv_aload_n hx hb dX0_apply_90 rfl (lv_at hl 0 rfl) ?_
        refine lv_iconst (v := (0 : Int32)) hx hb dX0_apply_91 (by decide) ?_
        refine va_put (D := D) (ci := 0) (v := .int (0 : Int32)) (ty := .int) (C := RX0) (T := TX0) (N := 12) hx hb hts in_X0_apply_X0 tyX0 tyX0_ok nmX0 hown hK.1 hP hD hS 0 rfl rfl 9 (by decide) (hts _ kw_X0_apply_2) (fun _ h9 => h9) rfl (tyX0_ok 9 (by decide)) rfl rfl (Nat.le_of_ble_eq_true rfl) dX0_apply_92 (fun H locs hP hD hS => ?_)
        have hP : va_P D vwCl (wH cyI qa (vh.1, va_up vh.2 1 (0 : Int32))) H := hP
        have hD : va_D A (wH cyI qa (vh.1, va_up vh.2 1 (0 : Int32))) := hD
        refine lv_goto (tgt := 107) hx hb dX0_apply_95 (by decide) ?_
        exact W.vret hx hb hr (fun t ht _ => ⟨⟨_, rfl, Option.some.inj h, by rw [ht]; exact hP, hD⟩, hS.F ht⟩) hS.2.2 dX0_apply_107 hlocks
      have h := jf c10 h
      refine lv_tableOut (tgt := 98) hx hb dX0_apply_10 (by have d0 := jne (z := 4) rfl c3; have d1 := jne (z := 5) rfl c5; have d2 := jne (z := 6) rfl c7; have d3 := jne (z := 7) rfl c8; have d4 := jne (z := 8) rfl c10; omega) (by decide) ?_
      refine lv_aload_n hx hb dX0_apply_98 rfl (lv_at hl 0 rfl) ?_
      refine lv_iload_n hx hb dX0_apply_99 rfl (lv_at hl 1 rfl) ?_
      refine lv_iload_n hx hb dX0_apply_100 rfl (lv_at hl 2 rfl) ?_
      refine lv_iload_n hx hb dX0_apply_101 rfl (lv_at hl 3 rfl) ?_
      refine lv_iload hx hb dX0_apply_102 (lv_at hl 4 rfl) ?_
      obtain ⟨z11, hz11, h⟩ := jb h
      refine jgv (w1 := fun u : Mo => wH cyI qa u) (wn := wH cyI qa z11) (jmV (As := [.int a1, .int a2, .int a3, .int a4]) (rest := []) ⟨hx, hb, hml, hown, hts⟩ (c_X0_addMouse l D cyI cyZ cyT qa H.size a1 a2 a3 a4 vh z11 hz11) (cwV 4 hts gX0_apply_X0_addMouse rfl rfl rfl (by decide +kernel) ⟨Nat.le_of_ble_eq_true rfl, Nat.le_of_ble_eq_true rfl⟩) hK hP hD rfl 0 0 rfl rfl rfl hl.1 (Nat.le_of_ble_eq_true rfl) dX0_apply_104 ⟨Nat.le_of_ble_eq_true rfl, Nat.le_of_ble_eq_true rfl⟩) hP hD hS hA [0, 1, 2, 3, 4, 5, 6, 7, 8] [] [0, 1, 2, 3, 4, 5, 6, 7, 8] rfl rfl (by decide) (by decide) rfl (by decide) (fun H locs hP hD hS => ?_)
      clear hz11
      exact W.vret hx hb hr (fun t ht _ => ⟨⟨_, rfl, Option.some.inj h, by rw [ht]; exact hP, hD⟩, hS.F ht⟩) hS.2.2 dX0_apply_107 hlocks
    · have h := jt c2 h
      exact W.vret hx hb hr (fun t ht _ => ⟨⟨_, rfl, Option.some.inj h, by rw [ht]; exact hP, hD⟩, hS.F ht⟩) hS.2.2 dX0_apply_8 hlocks
  exact key s.heap [] hP hD hS
theorem kw_X0_copyFrom_1 : (.fieldLink RX0 9 "BellTheCat$House" "kinds" "[I" : Cond) ∈ wsX0_copyFrom := List.mem_of_getElem? (i := 1) rfl
theorem kw_X0_copyFrom_2 : (.fieldLink RX0 15 "BellTheCat$House" "speeds" "[I" : Cond) ∈ wsX0_copyFrom := List.mem_of_getElem? (i := 2) rfl
theorem kw_X0_copyFrom_3 : (.fieldLink RX0 18 "BellTheCat$House" "fears" "[I" : Cond) ∈ wsX0_copyFrom := List.mem_of_getElem? (i := 3) rfl
theorem kw_X0_copyFrom_4 : (.fieldLink RX0 21 "BellTheCat$House" "tickets" "[I" : Cond) ∈ wsX0_copyFrom := List.mem_of_getElem? (i := 4) rfl
theorem kw_X0_copyFrom_5 : (.fieldLink RX0 24 "BellTheCat$House" "noises" "[I" : Cond) ∈ wsX0_copyFrom := List.mem_of_getElem? (i := 5) rfl
theorem kw_X0_copyFrom_6 : (.fieldLink RX0 27 "BellTheCat$House" "prices" "[I" : Cond) ∈ wsX0_copyFrom := List.mem_of_getElem? (i := 6) rfl
theorem kw_X0_copyFrom_7 : (.fieldLink RX0 30 "BellTheCat$House" "skills" "[I" : Cond) ∈ wsX0_copyFrom := List.mem_of_getElem? (i := 7) rfl
theorem kw_X0_copyFrom_8 : (.fieldLink RX0 33 "BellTheCat$House" "words" "[I" : Cond) ∈ wsX0_copyFrom := List.mem_of_getElem? (i := 8) rfl
theorem kw_X0_copyFrom_9 : (.fieldLink RX0 40 "BellTheCat$House" "miceCount" "I" : Cond) ∈ wsX0_copyFrom := List.mem_of_getElem? (i := 9) rfl
theorem kw_X0_copyFrom_10 : (.fieldLink RX0 43 "BellTheCat$House" "stepCount" "I" : Cond) ∈ wsX0_copyFrom := List.mem_of_getElem? (i := 10) rfl
theorem kw_X0_copyFrom_11 : (.fieldLink RX0 46 "BellTheCat$House" "ratCount" "I" : Cond) ∈ wsX0_copyFrom := List.mem_of_getElem? (i := 11) rfl
theorem kw_X0_copyFrom_12 : (.fieldLink RX0 36 "BellTheCat$House" "gain" "I" : Cond) ∈ wsX0_copyFrom := List.mem_of_getElem? (i := 12) rfl
theorem in_X0_copyFrom_X0 : ∀ w ∈ wsX00, w ∈ wsX0_copyFrom := fun w h => List.mem_cons_of_mem _ (List.mem_append_right _ h)
abbrev rm_X0_copyFrom : Room := { frames := 0, cells := 0, slots := 0, locals := 0 }
set_option maxHeartbeats 4000000 in
set_option maxRecDepth 100000 in
theorem c_X0_copyFrom (l : Launch) (D : va_G) (cyI cyZ cyT : ClassId) (qa qb : Nat → Nat) (sz : Nat) (N : Nat) (vh : Mo) (vh2 : Mo) (o : Mo) (hf : f_X0_copyFrom N vh vh2 = some o) : Met l yX0_copyFrom wsX0_copyFrom rm_X0_copyFrom (va_Pc [.ref (qa 0), .ref (qb 0)] (jM D cyI cyZ cyT (wH cyI qa vh ++ wH cyI qb vh2) sz)) (jQv D (va_A (wH cyI qa vh ++ wH cyI qb vh2) sz) (fun u : Mo => wH cyI qa u ++ wH cyI qb vh2) o) 0 0 (va_A (wH cyI qa vh ++ wH cyI qb vh2) sz) := by
  refine Met.ofW (cc := cX0_copyFrom) (maxL := 3) (ret := none) (by decide) rfl ?_
  intro p e s m args below meth c s₁ B hml hv
  obtain ⟨rfl, hsz, hP, hK, hD0⟩ := hv
  have hx := B.exec
  have hb := B.bytes
  have hr := B.returns
  have hts := atoms_spec (ws := wsX0_copyFrom) B.pre
  have hown : s.vm.findClass RX0 = some m.cls := findClass_of_methodNamed B.named
  have hlocks := B.notSynchronized
  subst hsz
  have hD := hD0.self (sz := s.heap.size)
  generalize hAe : va_A (wH cyI qa vh ++ wH cyI qb vh2) s.heap.size = A at hD ⊢
  have hA : ∀ q : Nat, s.heap.size ≤ q → A q := fun q h => by rw [← hAe]; exact Or.inr h
  have hS : va_S A s.heap s.heap [] := va_S.rf
  have hl := lv_entry ([.ref (qa 0), .ref (qb 0)]) (n := 3) (Nat.le_of_ble_eq_true rfl)
  rw [lg_entry_eq]
  generalize (lg_sl ([.ref (qa 0), .ref (qb 0)]) ++ List.replicate (3 - (lg_sl ([.ref (qa 0), .ref (qb 0)])).length) Slot.unset).toArray = ls at hl ⊢
  have hl : lv_has ls 3 [(0, .ref (qa 0)), (1, .ref (qb 0))] := hl
  clear B
  generalize ([.ref (qa 0), .ref (qb 0)] : List Value).toArray = args at hts ⊢
  have key : ∀ (H : Heap) (locs : List Loc), va_P D vwCl (wH cyI qa vh ++ wH cyI qb vh2) H → va_D A (wH cyI qa vh ++ wH cyI qb vh2) → va_S A s.heap H locs → W p l e rm_X0_copyFrom s m args below meth c H locs 0 0 (MQ below (jQv D A (fun u : Mo => wH cyI qa u ++ wH cyI qb vh2) o) args s 0 0 A) (F0 m 0 ls []) := by
    intro H locs hP hD hS
    have h := hf
    unfold f_X0_copyFrom at h
    refine lv_iconst (v := (0 : Int32)) hx hb dX0_copyFrom_0 (by decide) ?_
    refine lv_istore_n (lv' := [(2, .int (0 : Int32)), (0, .ref (qa 0)), (1, .ref (qb 0))]) hx hb dX0_copyFrom_1 rfl hl (by decide) rfl (fun ls hl => ?_)
    obtain ⟨r1, hz1, h1_⟩ := jb h
    have hex1 : ∀ e1 : Mo, r1 = e1 → ∀ (H : Heap) (locs : List Loc), va_P D vwCl (wH cyI qa e1 ++ wH cyI qb vh2) H → va_D A (wH cyI qa e1 ++ wH cyI qb vh2) → va_S A s.heap H locs → ∀ (ls : Array Slot), lv_has ls 3 [(0, .ref (qa 0)), (1, .ref (qb 0))] → W p l e rm_X0_copyFrom s m args below meth c H locs 0 0 (MQ below (jQv D A (fun u : Mo => wH cyI qa u ++ wH cyI qb vh2) o) args s 0 0 A) (F0 m 62 ls []) := by
      intro e1 he H locs hP hD hS ls hl
      rw [he] at h1_
      have h := h1_
      clear hz1
      refine lv_iconst (v := (0 : Int32)) hx hb dX0_copyFrom_62 (by decide) ?_
      refine lv_istore_n (lv' := [(2, .int (0 : Int32)), (0, .ref (qa 0)), (1, .ref (qb 0))]) hx hb dX0_copyFrom_63 rfl hl (by decide) rfl (fun ls hl => ?_)
      obtain ⟨r11, hz11, h11_⟩ := jb h
      have hex11 : ∀ e11 : Mo, r11 = e11 → ∀ (H : Heap) (locs : List Loc), va_P D vwCl (wH cyI qa e11 ++ wH cyI qb vh2) H → va_D A (wH cyI qa e11 ++ wH cyI qb vh2) → va_S A s.heap H locs → ∀ (ls : Array Slot), lv_has ls 3 [(0, .ref (qa 0)), (1, .ref (qb 0))] → W p l e rm_X0_copyFrom s m args below meth c H locs 0 0 (MQ below (jQv D A (fun u : Mo => wH cyI qa u ++ wH cyI qb vh2) o) args s 0 0 A) (F0 m 87 ls []) := by
        intro e11 he H locs hP hD hS ls hl
        rw [he] at h11_
        have h := h11_
        clear hz11
        refine lv_iconst (v := (0 : Int32)) hx hb dX0_copyFrom_87 (by decide) ?_
        refine lv_istore_n (lv' := [(2, .int (0 : Int32)), (0, .ref (qa 0)), (1, .ref (qb 0))]) hx hb dX0_copyFrom_88 rfl hl (by decide) rfl (fun ls hl => ?_)
        obtain ⟨r15, hz15, h15_⟩ := jb h
        have hex15 : ∀ e15 : Mo, r15 = e15 → ∀ (H : Heap) (locs : List Loc), va_P D vwCl (wH cyI qa e15 ++ wH cyI qb vh2) H → va_D A (wH cyI qa e15 ++ wH cyI qb vh2) → va_S A s.heap H locs → ∀ (ls : Array Slot), lv_has ls 3 [(0, .ref (qa 0)), (1, .ref (qb 0))] → W p l e rm_X0_copyFrom s m args below meth c H locs 0 0 (MQ below (jQv D A (fun u : Mo => wH cyI qa u ++ wH cyI qb vh2) o) args s 0 0 A) (F0 m 136 ls []) := by
          intro e15 he H locs hP hD hS ls hl
          rw [he] at h15_
          have h := h15_
          clear hz15
          refine lv_aload_n hx hb dX0_copyFrom_136 rfl (lv_at hl 0 rfl) ?_
          refine lv_aload_n hx hb dX0_copyFrom_137 rfl (lv_at hl 1 rfl) ?_
          refine va_get (D := D) (ci := 0) (v := .int (vh2.2 0)) (C := RX0) (T := TX0) (N := 12) hx hb hts in_X0_copyFrom_X0 hown hK.1 hP 9 rfl rfl 8 (by decide) (hts _ kw_X0_copyFrom_9) (fun _ h9 => h9) rfl dX0_copyFrom_138 ?_
          refine va_put (D := D) (ci := 0) (v := .int (vh2.2 0)) (ty := .int) (C := RX0) (T := TX0) (N := 12) hx hb hts in_X0_copyFrom_X0 tyX0 tyX0_ok nmX0 hown hK.1 hP hD hS 0 rfl rfl 8 (by decide) (hts _ kw_X0_copyFrom_9) (fun _ h9 => h9) rfl (tyX0_ok 8 (by decide)) rfl rfl (Nat.le_of_ble_eq_true rfl) dX0_copyFrom_141 (fun H locs hP hD hS => ?_)
          have hP : va_P D vwCl (wH cyI qa (e15.1, va_up e15.2 0 (vh2.2 0)) ++ wH cyI qb vh2) H := hP
          have hD : va_D A (wH cyI qa (e15.1, va_up e15.2 0 (vh2.2 0)) ++ wH cyI qb vh2) := hD
          refine lv_aload_n hx hb dX0_copyFrom_144 rfl (lv_at hl 0 rfl) ?_
          refine lv_aload_n hx hb dX0_copyFrom_145 rfl (lv_at hl 1 rfl) ?_
          refine va_get (D := D) (ci := 0) (v := .int (vh2.2 1)) (C := RX0) (T := TX0) (N := 12) hx hb hts in_X0_copyFrom_X0 hown hK.1 hP 9 rfl rfl 9 (by decide) (hts _ kw_X0_copyFrom_10) (fun _ h9 => h9) rfl dX0_copyFrom_146 ?_
          refine va_put (D := D) (ci := 0) (v := .int (vh2.2 1)) (ty := .int) (C := RX0) (T := TX0) (N := 12) hx hb hts in_X0_copyFrom_X0 tyX0 tyX0_ok nmX0 hown hK.1 hP hD hS 0 rfl rfl 9 (by decide) (hts _ kw_X0_copyFrom_10) (fun _ h9 => h9) rfl (tyX0_ok 9 (by decide)) rfl rfl (Nat.le_of_ble_eq_true rfl) dX0_copyFrom_149 (fun H locs hP hD hS => ?_)
          have hP : va_P D vwCl (wH cyI qa (e15.1, va_up (va_up e15.2 0 (vh2.2 0)) 1 (vh2.2 1)) ++ wH cyI qb vh2) H := hP
          have hD : va_D A (wH cyI qa (e15.1, va_up (va_up e15.2 0 (vh2.2 0)) 1 (vh2.2 1)) ++ wH cyI qb vh2) := hD
          refine lv_aload_n hx hb dX0_copyFrom_152 rfl (lv_at hl 0 rfl) ?_
          refine lv_aload_n hx hb dX0_copyFrom_153 rfl (lv_at hl 1 rfl) ?_
          refine va_get (D := D) (ci := 0) (v := .int (vh2.2 2)) (C := RX0) (T := TX0) (N := 12) hx hb hts in_X0_copyFrom_X0 hown hK.1 hP 9 rfl rfl 10 (by decide) (hts _ kw_X0_copyFrom_11) (fun _ h9 => h9) rfl dX0_copyFrom_154 ?_
          refine va_put (D := D) (ci := 0) (v := .int (vh2.2 2)) (ty := .int) (C := RX0) (T := TX0) (N := 12) hx hb hts in_X0_copyFrom_X0 tyX0 tyX0_ok nmX0 hown hK.1 hP hD hS 0 rfl rfl 10 (by decide) (hts _ kw_X0_copyFrom_11) (fun _ h9 => h9) rfl (tyX0_ok 10 (by decide)) rfl rfl (Nat.le_of_ble_eq_true rfl) dX0_copyFrom_157 (fun H locs hP hD hS => ?_)
          have hP : va_P D vwCl (wH cyI qa (e15.1, va_up (va_up (va_up e15.2 0 (vh2.2 0)) 1 (vh2.2 1)) 2 (vh2.2 2)) ++ wH cyI qb vh2) H := hP
          have hD : va_D A (wH cyI qa (e15.1, va_up (va_up (va_up e15.2 0 (vh2.2 0)) 1 (vh2.2 1)) 2 (vh2.2 2)) ++ wH cyI qb vh2) := hD
          refine lv_aload_n hx hb dX0_copyFrom_160 rfl (lv_at hl 0 rfl) ?_
          refine lv_aload_n hx hb dX0_copyFrom_161 rfl (lv_at hl 1 rfl) ?_
          refine va_get (D := D) (ci := 0) (v := .int (vh2.2 3)) (C := RX0) (T := TX0) (N := 12) hx hb hts in_X0_copyFrom_X0 hown hK.1 hP 9 rfl rfl 11 (by decide) (hts _ kw_X0_copyFrom_12) (fun _ h9 => h9) rfl dX0_copyFrom_162 ?_
          refine va_put (D := D) (ci := 0) (v := .int (vh2.2 3)) (ty := .int) (C := RX0) (T := TX0) (N := 12) hx hb hts in_X0_copyFrom_X0 tyX0 tyX0_ok nmX0 hown hK.1 hP hD hS 0 rfl rfl 11 (by decide) (hts _ kw_X0_copyFrom_12) (fun _ h9 => h9) rfl (tyX0_ok 11 (by decide)) rfl rfl (Nat.le_of_ble_eq_true rfl) dX0_copyFrom_165 (fun H locs hP hD hS => ?_)
          have hP : va_P D vwCl (wH cyI qa (e15.1, va_up (va_up (va_up (va_up e15.2 0 (vh2.2 0)) 1 (vh2.2 1)) 2 (vh2.2 2)) 3 (vh2.2 3)) ++ wH cyI qb vh2) H := hP
          have hD : va_D A (wH cyI qa (e15.1, va_up (va_up (va_up (va_up e15.2 0 (vh2.2 0)) 1 (vh2.2 1)) 2 (vh2.2 2)) 3 (vh2.2 3)) ++ wH cyI qb vh2) := hD
          exact W.vret hx hb hr (fun t ht _ => ⟨⟨_, rfl, Option.some.inj h, by rw [ht]; exact hP, hD⟩, hS.F ht⟩) hS.2.2 dX0_copyFrom_168 hlocks
        have hlp15 : ∀ (nn : Nat) (z15 : (Int32 × Mo)), jw (X0_copyFrom_s89 vh2) nn z15 = some r15 → ∀ (H : Heap) (locs : List Loc), va_P D vwCl (wH cyI qa z15.2 ++ wH cyI qb vh2) H → va_D A (wH cyI qa z15.2 ++ wH cyI qb vh2) → va_S A s.heap H locs → ∀ (ls : Array Slot), lv_has ls 3 [(0, .ref (qa 0)), (1, .ref (qb 0)), (2, .int z15.1)] → W p l e rm_X0_copyFrom s m args below meth c H locs 0 0 (MQ below (jQv D A (fun u : Mo => wH cyI qa u ++ wH cyI qb vh2) o) args s 0 0 A) (F0 m 89 ls []) := by
          refine jw_P (r := r15) (P := fun z15 : (Int32 × Mo) => ∀ (H : Heap) (locs : List Loc), va_P D vwCl (wH cyI qa z15.2 ++ wH cyI qb vh2) H → va_D A (wH cyI qa z15.2 ++ wH cyI qb vh2) → va_S A s.heap H locs → ∀ (ls : Array Slot), lv_has ls 3 [(0, .ref (qa 0)), (1, .ref (qb 0)), (2, .int z15.1)] → W p l e rm_X0_copyFrom s m args below meth c H locs 0 0 (MQ below (jQv D A (fun u : Mo => wH cyI qa u ++ wH cyI qb vh2) o) args s 0 0 A) (F0 m 89 ls [])) ?_
          intro z15 x15 h hin hout H locs hP hD hS ls hl
          unfold X0_copyFrom_s89 at h
          refine lv_iload_n hx hb dX0_copyFrom_89 rfl (lv_at hl 2 rfl) ?_
          refine lv_iconst (v := (4 : Int32)) hx hb dX0_copyFrom_90 (by decide) ?_
          refine lv_icmp_ge (tgt := 136) hx hb dX0_copyFrom_91 (by decide) (fun c16 => ?_) (fun c16 => ?_)
          · have h := jt c16 h
            exact hex15 _ (hout _ (Option.some.inj h).symm).symm H locs hP hD hS ls (lv_sub hl [0, 1] rfl)
          · have h := jf c16 h
            refine lv_aload_n hx hb dX0_copyFrom_94 rfl (lv_at hl 0 rfl) ?_
            refine va_get (D := D) (ci := 0) (v := .ref (qa 6)) (C := RX0) (T := TX0) (N := 12) hx hb hts in_X0_copyFrom_X0 hown hK.1 hP 0 rfl rfl 5 (by decide) (hts _ kw_X0_copyFrom_6) (fun _ h9 => h9) rfl dX0_copyFrom_95 ?_
            refine lv_iload_n hx hb dX0_copyFrom_98 rfl (lv_at hl 2 rfl) ?_
            refine lv_aload_n hx hb dX0_copyFrom_99 rfl (lv_at hl 1 rfl) ?_
            refine va_get (D := D) (ci := 0) (v := .ref (qb 6)) (C := RX0) (T := TX0) (N := 12) hx hb hts in_X0_copyFrom_X0 hown hK.1 hP 9 rfl rfl 5 (by decide) (hts _ kw_X0_copyFrom_6) (fun _ h9 => h9) rfl dX0_copyFrom_100 ?_
            refine lv_iload_n hx hb dX0_copyFrom_103 rfl (lv_at hl 2 rfl) ?_
            obtain ⟨g17, h⟩ := jn h
            refine jald hx hb hK hP 15 rfl _ rfl g17 dX0_copyFrom_104 ?_
            obtain ⟨g18, h⟩ := jn h
            refine jast (w' := wH cyI qa (va_up z15.2.1 5 (upd (z15.2.1 5) z15.1.toNatClampNeg (vh2.1 5 z15.1.toNatClampNeg)), z15.2.2) ++ wH cyI qb vh2) hx hb hK hP hD hS 6 rfl _ rfl g18 rfl dX0_copyFrom_105 (fun H locs hP hD hS => ?_)
            refine lv_aload_n hx hb dX0_copyFrom_106 rfl (lv_at hl 0 rfl) ?_
            refine va_get (D := D) (ci := 0) (v := .ref (qa 7)) (C := RX0) (T := TX0) (N := 12) hx hb hts in_X0_copyFrom_X0 hown hK.1 hP 0 rfl rfl 6 (by decide) (hts _ kw_X0_copyFrom_7) (fun _ h9 => h9) rfl dX0_copyFrom_107 ?_
            refine lv_iload_n hx hb dX0_copyFrom_110 rfl (lv_at hl 2 rfl) ?_
            refine lv_aload_n hx hb dX0_copyFrom_111 rfl (lv_at hl 1 rfl) ?_
            refine va_get (D := D) (ci := 0) (v := .ref (qb 7)) (C := RX0) (T := TX0) (N := 12) hx hb hts in_X0_copyFrom_X0 hown hK.1 hP 9 rfl rfl 6 (by decide) (hts _ kw_X0_copyFrom_7) (fun _ h9 => h9) rfl dX0_copyFrom_112 ?_
            refine lv_iload_n hx hb dX0_copyFrom_115 rfl (lv_at hl 2 rfl) ?_
            obtain ⟨g19, h⟩ := jn h
            refine jald hx hb hK hP 16 rfl _ rfl g19 dX0_copyFrom_116 ?_
            obtain ⟨g20, h⟩ := jn h
            refine jast (w' := wH cyI qa (va_up (va_up z15.2.1 5 (upd (z15.2.1 5) z15.1.toNatClampNeg (vh2.1 5 z15.1.toNatClampNeg))) 6 (upd (z15.2.1 6) z15.1.toNatClampNeg (vh2.1 6 z15.1.toNatClampNeg)), z15.2.2) ++ wH cyI qb vh2) hx hb hK hP hD hS 7 rfl _ rfl g20 rfl dX0_copyFrom_117 (fun H locs hP hD hS => ?_)
            refine lv_aload_n hx hb dX0_copyFrom_118 rfl (lv_at hl 0 rfl) ?_
            refine va_get (D := D) (ci := 0) (v := .ref (qa 8)) (C := RX0) (T := TX0) (N := 12) hx hb hts in_X0_copyFrom_X0 hown hK.1 hP 0 rfl rfl 7 (by decide) (hts _ kw_X0_copyFrom_8) (fun _ h9 => h9) rfl dX0_copyFrom_119 ?_
            refine lv_iload_n hx hb dX0_copyFrom_122 rfl (lv_at hl 2 rfl) ?_
            refine lv_aload_n hx hb dX0_copyFrom_123 rfl (lv_at hl 1 rfl) ?_
            refine va_get (D := D) (ci := 0) (v := .ref (qb 8)) (C := RX0) (T := TX0) (N := 12) hx hb hts in_X0_copyFrom_X0 hown hK.1 hP 9 rfl rfl 7 (by decide) (hts _ kw_X0_copyFrom_8) (fun _ h9 => h9) rfl dX0_copyFrom_124 ?_
            refine lv_iload_n hx hb dX0_copyFrom_127 rfl (lv_at hl 2 rfl) ?_
            obtain ⟨g21, h⟩ := jn h
            refine jald hx hb hK hP 17 rfl _ rfl g21 dX0_copyFrom_128 ?_
            obtain ⟨g22, h⟩ := jn h
            refine jast (w' := wH cyI qa (va_up (va_up (va_up z15.2.1 5 (upd (z15.2.1 5) z15.1.toNatClampNeg (vh2.1 5 z15.1.toNatClampNeg))) 6 (upd (z15.2.1 6) z15.1.toNatClampNeg (vh2.1 6 z15.1.toNatClampNeg))) 7 (upd (z15.2.1 7) z15.1.toNatClampNeg (vh2.1 7 z15.1.toNatClampNeg)), z15.2.2) ++ wH cyI qb vh2) hx hb hK hP hD hS 8 rfl _ rfl g22 rfl dX0_copyFrom_129 (fun H locs hP hD hS => ?_)
            refine lv_iinc (v := z15.1 + (1 : Int32)) (lv' := [(2, .int (z15.1 + (1 : Int32))), (0, .ref (qa 0)), (1, .ref (qb 0))]) hx hb dX0_copyFrom_130 hl (k := 2) rfl rfl (by decide) rfl (fun ls hl => ?_)
            refine lv_goto (tgt := 89) hx hb dX0_copyFrom_133 (by decide) ?_
            exact hin _ (Option.some.inj h).symm H locs hP hD hS ls (lv_sub hl [1, 2, 0] rfl)
        exact hlp15 _ _ hz15 H locs hP hD hS ls (lv_sub hl [1, 2, 0] rfl)
      have hlp11 : ∀ (nn : Nat) (z11 : (Int32 × Mo)), jw (X0_copyFrom_s64 vh2) nn z11 = some r11 → ∀ (H : Heap) (locs : List Loc), va_P D vwCl (wH cyI qa z11.2 ++ wH cyI qb vh2) H → va_D A (wH cyI qa z11.2 ++ wH cyI qb vh2) → va_S A s.heap H locs → ∀ (ls : Array Slot), lv_has ls 3 [(0, .ref (qa 0)), (1, .ref (qb 0)), (2, .int z11.1)] → W p l e rm_X0_copyFrom s m args below meth c H locs 0 0 (MQ below (jQv D A (fun u : Mo => wH cyI qa u ++ wH cyI qb vh2) o) args s 0 0 A) (F0 m 64 ls []) := by
        refine jw_P (r := r11) (P := fun z11 : (Int32 × Mo) => ∀ (H : Heap) (locs : List Loc), va_P D vwCl (wH cyI qa z11.2 ++ wH cyI qb vh2) H → va_D A (wH cyI qa z11.2 ++ wH cyI qb vh2) → va_S A s.heap H locs → ∀ (ls : Array Slot), lv_has ls 3 [(0, .ref (qa 0)), (1, .ref (qb 0)), (2, .int z11.1)] → W p l e rm_X0_copyFrom s m args below meth c H locs 0 0 (MQ below (jQv D A (fun u : Mo => wH cyI qa u ++ wH cyI qb vh2) o) args s 0 0 A) (F0 m 64 ls [])) ?_
        intro z11 x11 h hin hout H locs hP hD hS ls hl
        unfold X0_copyFrom_s64 at h
        refine lv_iload_n hx hb dX0_copyFrom_64 rfl (lv_at hl 2 rfl) ?_
        refine lv_iconst (v := (5 : Int32)) hx hb dX0_copyFrom_65 (by decide) ?_
        refine lv_icmp_ge (tgt := 87) hx hb dX0_copyFrom_66 (by decide) (fun c12 => ?_) (fun c12 => ?_)
        · have h := jt c12 h
          exact hex11 _ (hout _ (Option.some.inj h).symm).symm H locs hP hD hS ls (lv_sub hl [0, 1] rfl)
        · have h := jf c12 h
          refine lv_aload_n hx hb dX0_copyFrom_69 rfl (lv_at hl 0 rfl) ?_
          refine va_get (D := D) (ci := 0) (v := .ref (qa 5)) (C := RX0) (T := TX0) (N := 12) hx hb hts in_X0_copyFrom_X0 hown hK.1 hP 0 rfl rfl 4 (by decide) (hts _ kw_X0_copyFrom_5) (fun _ h9 => h9) rfl dX0_copyFrom_70 ?_
          refine lv_iload_n hx hb dX0_copyFrom_73 rfl (lv_at hl 2 rfl) ?_
          refine lv_aload_n hx hb dX0_copyFrom_74 rfl (lv_at hl 1 rfl) ?_
          refine va_get (D := D) (ci := 0) (v := .ref (qb 5)) (C := RX0) (T := TX0) (N := 12) hx hb hts in_X0_copyFrom_X0 hown hK.1 hP 9 rfl rfl 4 (by decide) (hts _ kw_X0_copyFrom_5) (fun _ h9 => h9) rfl dX0_copyFrom_75 ?_
          refine lv_iload_n hx hb dX0_copyFrom_78 rfl (lv_at hl 2 rfl) ?_
          obtain ⟨g13, h⟩ := jn h
          refine jald hx hb hK hP 14 rfl _ rfl g13 dX0_copyFrom_79 ?_
          obtain ⟨g14, h⟩ := jn h
          refine jast (w' := wH cyI qa (va_up z11.2.1 4 (upd (z11.2.1 4) z11.1.toNatClampNeg (vh2.1 4 z11.1.toNatClampNeg)), z11.2.2) ++ wH cyI qb vh2) hx hb hK hP hD hS 5 rfl _ rfl g14 rfl dX0_copyFrom_80 (fun H locs hP hD hS => ?_)
          refine lv_iinc (v := z11.1 + (1 : Int32)) (lv' := [(2, .int (z11.1 + (1 : Int32))), (0, .ref (qa 0)), (1, .ref (qb 0))]) hx hb dX0_copyFrom_81 hl (k := 2) rfl rfl (by decide) rfl (fun ls hl => ?_)
          refine lv_goto (tgt := 64) hx hb dX0_copyFrom_84 (by decide) ?_
          exact hin _ (Option.some.inj h).symm H locs hP hD hS ls (lv_sub hl [1, 2, 0] rfl)
      exact hlp11 _ _ hz11 H locs hP hD hS ls (lv_sub hl [1, 2, 0] rfl)
    have hlp1 : ∀ (nn : Nat) (z1 : (Int32 × Mo)), jw (X0_copyFrom_s2 vh2) nn z1 = some r1 → ∀ (H : Heap) (locs : List Loc), va_P D vwCl (wH cyI qa z1.2 ++ wH cyI qb vh2) H → va_D A (wH cyI qa z1.2 ++ wH cyI qb vh2) → va_S A s.heap H locs → ∀ (ls : Array Slot), lv_has ls 3 [(0, .ref (qa 0)), (1, .ref (qb 0)), (2, .int z1.1)] → W p l e rm_X0_copyFrom s m args below meth c H locs 0 0 (MQ below (jQv D A (fun u : Mo => wH cyI qa u ++ wH cyI qb vh2) o) args s 0 0 A) (F0 m 2 ls []) := by
      refine jw_P (r := r1) (P := fun z1 : (Int32 × Mo) => ∀ (H : Heap) (locs : List Loc), va_P D vwCl (wH cyI qa z1.2 ++ wH cyI qb vh2) H → va_D A (wH cyI qa z1.2 ++ wH cyI qb vh2) → va_S A s.heap H locs → ∀ (ls : Array Slot), lv_has ls 3 [(0, .ref (qa 0)), (1, .ref (qb 0)), (2, .int z1.1)] → W p l e rm_X0_copyFrom s m args below meth c H locs 0 0 (MQ below (jQv D A (fun u : Mo => wH cyI qa u ++ wH cyI qb vh2) o) args s 0 0 A) (F0 m 2 ls [])) ?_
      intro z1 x1 h hin hout H locs hP hD hS ls hl
      unfold X0_copyFrom_s2 at h
      refine lv_iload_n hx hb dX0_copyFrom_2 rfl (lv_at hl 2 rfl) ?_
      refine lv_bipush (v := (6 : Int32)) hx hb dX0_copyFrom_3 (by decide) ?_
      refine lv_icmp_ge (tgt := 62) hx hb dX0_copyFrom_5 (by decide) (fun c2 => ?_) (fun c2 => ?_)
      · have h := jt c2 h
        exact hex1 _ (hout _ (Option.some.inj h).symm).symm H locs hP hD hS ls (lv_sub hl [0, 1] rfl)
      · have h := jf c2 h
        refine lv_aload_n hx hb dX0_copyFrom_8 rfl (lv_at hl 0 rfl) ?_
        refine va_get (D := D) (ci := 0) (v := .ref (qa 1)) (C := RX0) (T := TX0) (N := 12) hx hb hts in_X0_copyFrom_X0 hown hK.1 hP 0 rfl rfl 0 (by decide) (hts _ kw_X0_copyFrom_1) (fun _ h9 => h9) rfl dX0_copyFrom_9 ?_
        refine lv_iload_n hx hb dX0_copyFrom_12 rfl (lv_at hl 2 rfl) ?_
        refine lv_aload_n hx hb dX0_copyFrom_13 rfl (lv_at hl 1 rfl) ?_
        refine va_get (D := D) (ci := 0) (v := .ref (qb 1)) (C := RX0) (T := TX0) (N := 12) hx hb hts in_X0_copyFrom_X0 hown hK.1 hP 9 rfl rfl 0 (by decide) (hts _ kw_X0_copyFrom_1) (fun _ h9 => h9) rfl dX0_copyFrom_14 ?_
        refine lv_iload_n hx hb dX0_copyFrom_17 rfl (lv_at hl 2 rfl) ?_
        obtain ⟨g3, h⟩ := jn h
        refine jald hx hb hK hP 10 rfl _ rfl g3 dX0_copyFrom_18 ?_
        obtain ⟨g4, h⟩ := jn h
        refine jast (w' := wH cyI qa (va_up z1.2.1 0 (upd (z1.2.1 0) z1.1.toNatClampNeg (vh2.1 0 z1.1.toNatClampNeg)), z1.2.2) ++ wH cyI qb vh2) hx hb hK hP hD hS 1 rfl _ rfl g4 rfl dX0_copyFrom_19 (fun H locs hP hD hS => ?_)
        refine lv_aload_n hx hb dX0_copyFrom_20 rfl (lv_at hl 0 rfl) ?_
        refine va_get (D := D) (ci := 0) (v := .ref (qa 2)) (C := RX0) (T := TX0) (N := 12) hx hb hts in_X0_copyFrom_X0 hown hK.1 hP 0 rfl rfl 1 (by decide) (hts _ kw_X0_copyFrom_2) (fun _ h9 => h9) rfl dX0_copyFrom_21 ?_
        refine lv_iload_n hx hb dX0_copyFrom_24 rfl (lv_at hl 2 rfl) ?_
        refine lv_aload_n hx hb dX0_copyFrom_25 rfl (lv_at hl 1 rfl) ?_
        refine va_get (D := D) (ci := 0) (v := .ref (qb 2)) (C := RX0) (T := TX0) (N := 12) hx hb hts in_X0_copyFrom_X0 hown hK.1 hP 9 rfl rfl 1 (by decide) (hts _ kw_X0_copyFrom_2) (fun _ h9 => h9) rfl dX0_copyFrom_26 ?_
        refine lv_iload_n hx hb dX0_copyFrom_29 rfl (lv_at hl 2 rfl) ?_
        obtain ⟨g5, h⟩ := jn h
        refine jald hx hb hK hP 11 rfl _ rfl g5 dX0_copyFrom_30 ?_
        obtain ⟨g6, h⟩ := jn h
        refine jast (w' := wH cyI qa (va_up (va_up z1.2.1 0 (upd (z1.2.1 0) z1.1.toNatClampNeg (vh2.1 0 z1.1.toNatClampNeg))) 1 (upd (z1.2.1 1) z1.1.toNatClampNeg (vh2.1 1 z1.1.toNatClampNeg)), z1.2.2) ++ wH cyI qb vh2) hx hb hK hP hD hS 2 rfl _ rfl g6 rfl dX0_copyFrom_31 (fun H locs hP hD hS => ?_)
        refine lv_aload_n hx hb dX0_copyFrom_32 rfl (lv_at hl 0 rfl) ?_
        refine va_get (D := D) (ci := 0) (v := .ref (qa 3)) (C := RX0) (T := TX0) (N := 12) hx hb hts in_X0_copyFrom_X0 hown hK.1 hP 0 rfl rfl 2 (by decide) (hts _ kw_X0_copyFrom_3) (fun _ h9 => h9) rfl dX0_copyFrom_33 ?_
        refine lv_iload_n hx hb dX0_copyFrom_36 rfl (lv_at hl 2 rfl) ?_
        refine lv_aload_n hx hb dX0_copyFrom_37 rfl (lv_at hl 1 rfl) ?_
        refine va_get (D := D) (ci := 0) (v := .ref (qb 3)) (C := RX0) (T := TX0) (N := 12) hx hb hts in_X0_copyFrom_X0 hown hK.1 hP 9 rfl rfl 2 (by decide) (hts _ kw_X0_copyFrom_3) (fun _ h9 => h9) rfl dX0_copyFrom_38 ?_
        refine lv_iload_n hx hb dX0_copyFrom_41 rfl (lv_at hl 2 rfl) ?_
        obtain ⟨g7, h⟩ := jn h
        refine jald hx hb hK hP 12 rfl _ rfl g7 dX0_copyFrom_42 ?_
        obtain ⟨g8, h⟩ := jn h
        refine jast (w' := wH cyI qa (va_up (va_up (va_up z1.2.1 0 (upd (z1.2.1 0) z1.1.toNatClampNeg (vh2.1 0 z1.1.toNatClampNeg))) 1 (upd (z1.2.1 1) z1.1.toNatClampNeg (vh2.1 1 z1.1.toNatClampNeg))) 2 (upd (z1.2.1 2) z1.1.toNatClampNeg (vh2.1 2 z1.1.toNatClampNeg)), z1.2.2) ++ wH cyI qb vh2) hx hb hK hP hD hS 3 rfl _ rfl g8 rfl dX0_copyFrom_43 (fun H locs hP hD hS => ?_)
        refine lv_aload_n hx hb dX0_copyFrom_44 rfl (lv_at hl 0 rfl) ?_
        refine va_get (D := D) (ci := 0) (v := .ref (qa 4)) (C := RX0) (T := TX0) (N := 12) hx hb hts in_X0_copyFrom_X0 hown hK.1 hP 0 rfl rfl 3 (by decide) (hts _ kw_X0_copyFrom_4) (fun _ h9 => h9) rfl dX0_copyFrom_45 ?_
        refine lv_iload_n hx hb dX0_copyFrom_48 rfl (lv_at hl 2 rfl) ?_
        refine lv_aload_n hx hb dX0_copyFrom_49 rfl (lv_at hl 1 rfl) ?_
        refine va_get (D := D) (ci := 0) (v := .ref (qb 4)) (C := RX0) (T := TX0) (N := 12) hx hb hts in_X0_copyFrom_X0 hown hK.1 hP 9 rfl rfl 3 (by decide) (hts _ kw_X0_copyFrom_4) (fun _ h9 => h9) rfl dX0_copyFrom_50 ?_
        refine lv_iload_n hx hb dX0_copyFrom_53 rfl (lv_at hl 2 rfl) ?_
        obtain ⟨g9, h⟩ := jn h
        refine jald hx hb hK hP 13 rfl _ rfl g9 dX0_copyFrom_54 ?_
        obtain ⟨g10, h⟩ := jn h
        refine jast (w' := wH cyI qa (va_up (va_up (va_up (va_up z1.2.1 0 (upd (z1.2.1 0) z1.1.toNatClampNeg (vh2.1 0 z1.1.toNatClampNeg))) 1 (upd (z1.2.1 1) z1.1.toNatClampNeg (vh2.1 1 z1.1.toNatClampNeg))) 2 (upd (z1.2.1 2) z1.1.toNatClampNeg (vh2.1 2 z1.1.toNatClampNeg))) 3 (upd (z1.2.1 3) z1.1.toNatClampNeg (vh2.1 3 z1.1.toNatClampNeg)), z1.2.2) ++ wH cyI qb vh2) hx hb hK hP hD hS 4 rfl _ rfl g10 rfl dX0_copyFrom_55 (fun H locs hP hD hS => ?_)
        refine lv_iinc (v := z1.1 + (1 : Int32)) (lv' := [(2, .int (z1.1 + (1 : Int32))), (0, .ref (qa 0)), (1, .ref (qb 0))]) hx hb dX0_copyFrom_56 hl (k := 2) rfl rfl (by decide) rfl (fun ls hl => ?_)
        refine lv_goto (tgt := 2) hx hb dX0_copyFrom_59 (by decide) ?_
        exact hin _ (Option.some.inj h).symm H locs hP hD hS ls (lv_sub hl [1, 2, 0] rfl)
    exact hlp1 _ _ hz1 H locs hP hD hS ls (lv_sub hl [1, 2, 0] rfl)
  exact key s.heap [] hP hD hS
theorem kw_X0_fearOf_1 : (.fieldLink RX0 18 "BellTheCat$House" "fears" "[I" : Cond) ∈ wsX0_fearOf := List.mem_of_getElem? (i := 1) rfl
theorem in_X0_fearOf_X0 : ∀ w ∈ wsX00, w ∈ wsX0_fearOf := fun w h => List.mem_cons_of_mem _ (List.mem_append_right _ h)
abbrev rm_X0_fearOf : Room := { frames := 1, cells := 0, slots := 0, locals := 21 }
set_option maxHeartbeats 4000000 in
set_option maxRecDepth 100000 in
theorem c_X0_fearOf (l : Launch) (D : va_G) (cyI cyZ cyT : ClassId) (qa : Nat → Nat) (a1 : Int32) (vh : Mo) (o : Int32) (hf : f_X0_fearOf a1 vh = some o) : Met l yX0_fearOf wsX0_fearOf rm_X0_fearOf (va_Pc [.ref (qa 0), .int a1] (jB D cyI cyZ cyT (wH cyI qa vh))) (jSi o) 0 0 (fun _ => False) := by
  refine Met.ofW (cc := cX0_fearOf) (maxL := 2) (ret := (some .int)) (by decide) rfl ?_
  intro p e s m args below meth c s₁ B hml hv
  obtain ⟨rfl, hP, hK⟩ := hv
  have hx := B.exec
  have hb := B.bytes
  have hr := B.returns
  have hts := atoms_spec (ws := wsX0_fearOf) B.pre
  have hown : s.vm.findClass RX0 = some m.cls := findClass_of_methodNamed B.named
  have hlocks := B.notSynchronized
  have hl := lv_entry ([.ref (qa 0), .int a1]) (n := 2) (Nat.le_of_ble_eq_true rfl)
  rw [lg_entry_eq]
  generalize (lg_sl ([.ref (qa 0), .int a1]) ++ List.replicate (2 - (lg_sl ([.ref (qa 0), .int a1])).length) Slot.unset).toArray = ls at hl ⊢
  have hl : lv_has ls 2 [(0, .ref (qa 0)), (1, .int a1)] := hl
  clear B
  generalize ([.ref (qa 0), .int a1] : List Value).toArray = args at hts ⊢
  have key : ∀ (H : Heap), va_P D vwCl (wH cyI qa vh) H → H = s.heap → W p l e rm_X0_fearOf s m args below meth c H [] 0 0 (MQ below (jSi o) args s 0 0 (fun _ => False)) (F0 m 0 ls []) := by
    intro H hP hH
    have h := hf
    unfold f_X0_fearOf at h
    refine lv_aload_n hx hb dX0_fearOf_0 rfl (lv_at hl 0 rfl) ?_
    refine lv_iload_n hx hb dX0_fearOf_1 rfl (lv_at hl 1 rfl) ?_
    obtain ⟨z1, hz1, h⟩ := jb h
    refine jki (jrV (As := [.int a1]) (rest := []) ⟨hx, hb, hml, hown, hts⟩ (c_X0_hasMouse l D cyI cyZ cyT qa  a1 vh z1 hz1) (cwV 1 hts gX0_fearOf_X0_hasMouse rfl rfl rfl (by decide +kernel) ⟨Nat.le_of_ble_eq_true rfl, Nat.le_of_ble_eq_true rfl⟩) hK hP rfl 0 0 rfl rfl rfl hl.1 (Nat.le_of_ble_eq_true rfl) dX0_fearOf_2 ⟨Nat.le_of_ble_eq_true rfl, Nat.le_of_ble_eq_true rfl⟩) ?_
    clear hz1
    refine lv_if_eq (tgt := 17) hx hb dX0_fearOf_5 (by decide) (fun c2 => ?_) (fun c2 => ?_)
    · have h := jt c2 h
      refine lv_iconst (v := (0 : Int32)) hx hb dX0_fearOf_17 (by decide) ?_
      exact W.iret hx hb hr (fun t ht _ => ⟨_, rfl, Option.some.inj h, ht.trans hH⟩) (fun q h => by cases h) dX0_fearOf_18 hlocks
    · have h := jf c2 h
      refine lv_aload_n hx hb dX0_fearOf_8 rfl (lv_at hl 0 rfl) ?_
      refine va_get (D := D) (ci := 0) (v := .ref (qa 3)) (C := RX0) (T := TX0) (N := 12) hx hb hts in_X0_fearOf_X0 hown hK.1 hP 0 rfl rfl 2 (by decide) (hts _ kw_X0_fearOf_1) (fun _ h9 => h9) rfl dX0_fearOf_9 ?_
      refine lv_iload_n hx hb dX0_fearOf_12 rfl (lv_at hl 1 rfl) ?_
      obtain ⟨g3, h⟩ := jn h
      refine jald hx hb hK hP 3 rfl _ rfl g3 dX0_fearOf_13 ?_
      refine lv_goto (tgt := 18) hx hb dX0_fearOf_14 (by decide) ?_
      exact W.iret hx hb hr (fun t ht _ => ⟨_, rfl, Option.some.inj h, ht.trans hH⟩) (fun q h => by cases h) dX0_fearOf_18 hlocks
  exact key s.heap hP rfl
abbrev rm_X0_dreadAbove : Room := { frames := 4, cells := 0, slots := 0, locals := 135 }
set_option maxHeartbeats 4000000 in
set_option maxRecDepth 100000 in
theorem c_X0_dreadAbove (l : Launch) (D : va_G) (cyI cyZ cyT : ClassId) (qa : Nat → Nat) (N : Nat) (a1 : Int32) (vh : Mo) (o : Int64) (hf : f_X0_dreadAbove N a1 vh = some o) : Met l yX0_dreadAbove wsX0_dreadAbove rm_X0_dreadAbove (va_Pc [.ref (qa 0), .int a1] (jB D cyI cyZ cyT (wH cyI qa vh))) (jSl o) 0 0 (fun _ => False) := by
  refine Met.ofW (cc := cX0_dreadAbove) (maxL := 2) (ret := (some .long)) (by decide) rfl ?_
  intro p e s m args below meth c s₁ B hml hv
  obtain ⟨rfl, hP, hK⟩ := hv
  have hx := B.exec
  have hb := B.bytes
  have hr := B.returns
  have hts := atoms_spec (ws := wsX0_dreadAbove) B.pre
  have hown : s.vm.findClass RX0 = some m.cls := findClass_of_methodNamed B.named
  have hlocks := B.notSynchronized
  have hl := lv_entry ([.ref (qa 0), .int a1]) (n := 2) (Nat.le_of_ble_eq_true rfl)
  rw [lg_entry_eq]
  generalize (lg_sl ([.ref (qa 0), .int a1]) ++ List.replicate (2 - (lg_sl ([.ref (qa 0), .int a1])).length) Slot.unset).toArray = ls at hl ⊢
  have hl : lv_has ls 2 [(0, .ref (qa 0)), (1, .int a1)] := hl
  clear B
  generalize ([.ref (qa 0), .int a1] : List Value).toArray = args at hts ⊢
  have key : ∀ (H : Heap), va_P D vwCl (wH cyI qa vh) H → H = s.heap → W p l e rm_X0_dreadAbove s m args below meth c H [] 0 0 (MQ below (jSl o) args s 0 0 (fun _ => False)) (F0 m 0 ls []) := by
    intro H hP hH
    have h := hf
    unfold f_X0_dreadAbove at h
    refine lv_aload_n hx hb dX0_dreadAbove_0 rfl (lv_at hl 0 rfl) ?_
    refine lv_iload_n hx hb dX0_dreadAbove_1 rfl (lv_at hl 1 rfl) ?_
    obtain ⟨z1, hz1, h⟩ := jb h
    refine jki (jrV (As := [.int a1]) (rest := []) ⟨hx, hb, hml, hown, hts⟩ (c_X0_fearOf l D cyI cyZ cyT qa  a1 vh z1 hz1) (cwV 1 hts gX0_dreadAbove_X0_fearOf rfl rfl rfl (by decide +kernel) ⟨Nat.le_of_ble_eq_true rfl, Nat.le_of_ble_eq_true rfl⟩) hK hP rfl 0 0 rfl rfl rfl hl.1 (Nat.le_of_ble_eq_true rfl) dX0_dreadAbove_2 ⟨Nat.le_of_ble_eq_true rfl, Nat.le_of_ble_eq_true rfl⟩) ?_
    clear hz1
    refine lv_i2l (v := z1.toInt64) hx hb dX0_dreadAbove_5 rfl ?_
    refine lv_aload_n hx hb dX0_dreadAbove_6 rfl (lv_at hl 0 rfl) ?_
    refine lv_iload_n hx hb dX0_dreadAbove_7 rfl (lv_at hl 1 rfl) ?_
    obtain ⟨z2, hz2, h⟩ := jb h
    refine jkl (jrV (As := [.int a1]) (rest := [.long z1.toInt64]) ⟨hx, hb, hml, hown, hts⟩ (c_X0_aloneAbove l D cyI cyZ cyT qa  N a1 vh z2 hz2) (cwV 1 hts gX0_dreadAbove_X0_aloneAbove rfl rfl rfl (by decide +kernel) ⟨Nat.le_of_ble_eq_true rfl, Nat.le_of_ble_eq_true rfl⟩) hK hP rfl 0 0 rfl rfl rfl hl.1 (Nat.le_of_ble_eq_true rfl) dX0_dreadAbove_8 ⟨Nat.le_of_ble_eq_true rfl, Nat.le_of_ble_eq_true rfl⟩) ?_
    clear hz2
    refine lv_lmul hx hb dX0_dreadAbove_11 ?_
    exact W.lret hx hb hr (fun t ht _ => ⟨_, rfl, Option.some.inj h, ht.trans hH⟩) (fun q h => by cases h) dX0_dreadAbove_12 hlocks
  exact key s.heap hP rfl
theorem kw_X0_hasRat_1 : (.fieldLink RX0 46 "BellTheCat$House" "ratCount" "I" : Cond) ∈ wsX0_hasRat := List.mem_of_getElem? (i := 1) rfl
theorem in_X0_hasRat_X0 : ∀ w ∈ wsX00, w ∈ wsX0_hasRat := fun w h => List.mem_cons_of_mem _ (List.mem_append_right _ h)
abbrev rm_X0_hasRat : Room := { frames := 0, cells := 0, slots := 0, locals := 0 }
set_option maxHeartbeats 4000000 in
set_option maxRecDepth 100000 in
theorem c_X0_hasRat (l : Launch) (D : va_G) (cyI cyZ cyT : ClassId) (qa : Nat → Nat) (a1 : Int32) (vh : Mo) (o : Int32) (hf : f_X0_hasRat a1 vh = some o) : Met l yX0_hasRat wsX0_hasRat rm_X0_hasRat (va_Pc [.ref (qa 0), .int a1] (jB D cyI cyZ cyT (wH cyI qa vh))) (jSi o) 0 0 (fun _ => False) := by
  refine Met.ofW (cc := cX0_hasRat) (maxL := 2) (ret := (some .boolean)) (by decide) rfl ?_
  intro p e s m args below meth c s₁ B hml hv
  obtain ⟨rfl, hP, hK⟩ := hv
  have hx := B.exec
  have hb := B.bytes
  have hr := B.returns
  have hts := atoms_spec (ws := wsX0_hasRat) B.pre
  have hown : s.vm.findClass RX0 = some m.cls := findClass_of_methodNamed B.named
  have hlocks := B.notSynchronized
  have hl := lv_entry ([.ref (qa 0), .int a1]) (n := 2) (Nat.le_of_ble_eq_true rfl)
  rw [lg_entry_eq]
  generalize (lg_sl ([.ref (qa 0), .int a1]) ++ List.replicate (2 - (lg_sl ([.ref (qa 0), .int a1])).length) Slot.unset).toArray = ls at hl ⊢
  have hl : lv_has ls 2 [(0, .ref (qa 0)), (1, .int a1)] := hl
  clear B
  generalize ([.ref (qa 0), .int a1] : List Value).toArray = args at hts ⊢
  have key : ∀ (H : Heap), va_P D vwCl (wH cyI qa vh) H → H = s.heap → W p l e rm_X0_hasRat s m args below meth c H [] 0 0 (MQ below (jSi o) args s 0 0 (fun _ => False)) (F0 m 0 ls []) := by
    intro H hP hH
    have h := hf
    unfold f_X0_hasRat at h
    refine lv_iload_n hx hb dX0_hasRat_0 rfl (lv_at hl 1 rfl) ?_
    refine lv_if_lt (tgt := 21) hx hb dX0_hasRat_1 (by decide) (fun c1 => ?_) (fun c1 => ?_)
    · have h := jt c1 h
      refine lv_iconst (v := (0 : Int32)) hx hb dX0_hasRat_21 (by decide) ?_
      exact W.zret hx hb hr rfl (fun t ht _ => ⟨_, rfl, Option.some.inj h, ht.trans hH⟩) (fun q h => by cases h) dX0_hasRat_22 hlocks
    · have h := jf c1 h
      refine lv_iload_n hx hb dX0_hasRat_4 rfl (lv_at hl 1 rfl) ?_
      refine lv_aload_n hx hb dX0_hasRat_5 rfl (lv_at hl 0 rfl) ?_
      refine va_get (D := D) (ci := 0) (v := .int (vh.2 2)) (C := RX0) (T := TX0) (N := 12) hx hb hts in_X0_hasRat_X0 hown hK.1 hP 0 rfl rfl 10 (by decide) (hts _ kw_X0_hasRat_1) (fun _ h9 => h9) rfl dX0_hasRat_6 ?_
      refine lv_icmp_ge (tgt := 21) hx hb dX0_hasRat_9 (by decide) (fun c2 => ?_) (fun c2 => ?_)
      · have h := jt c2 h
        refine lv_iconst (v := (0 : Int32)) hx hb dX0_hasRat_21 (by decide) ?_
        exact W.zret hx hb hr rfl (fun t ht _ => ⟨_, rfl, Option.some.inj h, ht.trans hH⟩) (fun q h => by cases h) dX0_hasRat_22 hlocks
      · have h := jf c2 h
        refine lv_iload_n hx hb dX0_hasRat_12 rfl (lv_at hl 1 rfl) ?_
        refine lv_iconst (v := (4 : Int32)) hx hb dX0_hasRat_13 (by decide) ?_
        refine lv_icmp_ge (tgt := 21) hx hb dX0_hasRat_14 (by decide) (fun c3 => ?_) (fun c3 => ?_)
        · have h := jt c3 h
          refine lv_iconst (v := (0 : Int32)) hx hb dX0_hasRat_21 (by decide) ?_
          exact W.zret hx hb hr rfl (fun t ht _ => ⟨_, rfl, Option.some.inj h, ht.trans hH⟩) (fun q h => by cases h) dX0_hasRat_22 hlocks
        · have h := jf c3 h
          refine lv_iconst (v := (1 : Int32)) hx hb dX0_hasRat_17 (by decide) ?_
          refine lv_goto (tgt := 22) hx hb dX0_hasRat_18 (by decide) ?_
          exact W.zret hx hb hr rfl (fun t ht _ => ⟨_, rfl, Option.some.inj h, ht.trans hH⟩) (fun q h => by cases h) dX0_hasRat_22 hlocks
  exact key s.heap hP rfl
theorem kw_X0_worthOf_1 : (.fieldLink RX0 36 "BellTheCat$House" "gain" "I" : Cond) ∈ wsX0_worthOf := List.mem_of_getElem? (i := 1) rfl
theorem kw_X0_worthOf_2 : (.fieldLink RX0 30 "BellTheCat$House" "skills" "[I" : Cond) ∈ wsX0_worthOf := List.mem_of_getElem? (i := 2) rfl
theorem kw_X0_worthOf_3 : (.fieldLink RX0 33 "BellTheCat$House" "words" "[I" : Cond) ∈ wsX0_worthOf := List.mem_of_getElem? (i := 3) rfl
theorem kw_X0_worthOf_4 : (.fieldLink RX0 27 "BellTheCat$House" "prices" "[I" : Cond) ∈ wsX0_worthOf := List.mem_of_getElem? (i := 4) rfl
theorem in_X0_worthOf_X0 : ∀ w ∈ wsX00, w ∈ wsX0_worthOf := fun w h => List.mem_cons_of_mem _ (List.mem_append_right _ h)
abbrev rm_X0_worthOf : Room := { frames := 1, cells := 0, slots := 0, locals := 21 }
set_option maxHeartbeats 4000000 in
set_option maxRecDepth 100000 in
theorem c_X0_worthOf (l : Launch) (D : va_G) (cyI cyZ cyT : ClassId) (qa : Nat → Nat) (a1 : Int32) (vh : Mo) (o : Int32) (hf : f_X0_worthOf a1 vh = some o) : Met l yX0_worthOf wsX0_worthOf rm_X0_worthOf (va_Pc [.ref (qa 0), .int a1] (jB D cyI cyZ cyT (wH cyI qa vh))) (jSi o) 0 0 (fun _ => False) := by
  refine Met.ofW (cc := cX0_worthOf) (maxL := 2) (ret := (some .int)) (by decide) rfl ?_
  intro p e s m args below meth c s₁ B hml hv
  obtain ⟨rfl, hP, hK⟩ := hv
  have hx := B.exec
  have hb := B.bytes
  have hr := B.returns
  have hts := atoms_spec (ws := wsX0_worthOf) B.pre
  have hown : s.vm.findClass RX0 = some m.cls := findClass_of_methodNamed B.named
  have hlocks := B.notSynchronized
  have hl := lv_entry ([.ref (qa 0), .int a1]) (n := 2) (Nat.le_of_ble_eq_true rfl)
  rw [lg_entry_eq]
  generalize (lg_sl ([.ref (qa 0), .int a1]) ++ List.replicate (2 - (lg_sl ([.ref (qa 0), .int a1])).length) Slot.unset).toArray = ls at hl ⊢
  have hl : lv_has ls 2 [(0, .ref (qa 0)), (1, .int a1)] := hl
  clear B
  generalize ([.ref (qa 0), .int a1] : List Value).toArray = args at hts ⊢
  have key : ∀ (H : Heap), va_P D vwCl (wH cyI qa vh) H → H = s.heap → W p l e rm_X0_worthOf s m args below meth c H [] 0 0 (MQ below (jSi o) args s 0 0 (fun _ => False)) (F0 m 0 ls []) := by
    intro H hP hH
    have h := hf
    unfold f_X0_worthOf at h
    refine lv_aload_n hx hb dX0_worthOf_0 rfl (lv_at hl 0 rfl) ?_
    refine lv_iload_n hx hb dX0_worthOf_1 rfl (lv_at hl 1 rfl) ?_
    obtain ⟨z1, hz1, h⟩ := jb h
    refine jki (jrV (As := [.int a1]) (rest := []) ⟨hx, hb, hml, hown, hts⟩ (c_X0_hasRat l D cyI cyZ cyT qa  a1 vh z1 hz1) (cwV 1 hts gX0_worthOf_X0_hasRat rfl rfl rfl (by decide +kernel) ⟨Nat.le_of_ble_eq_true rfl, Nat.le_of_ble_eq_true rfl⟩) hK hP rfl 0 0 rfl rfl rfl hl.1 (Nat.le_of_ble_eq_true rfl) dX0_worthOf_2 ⟨Nat.le_of_ble_eq_true rfl, Nat.le_of_ble_eq_true rfl⟩) ?_
    clear hz1
    refine lv_if_eq (tgt := 39) hx hb dX0_worthOf_5 (by decide) (fun c2 => ?_) (fun c2 => ?_)
    · have h := jt c2 h
      refine lv_iconst (v := (0 : Int32)) hx hb dX0_worthOf_39 (by decide) ?_
      exact W.iret hx hb hr (fun t ht _ => ⟨_, rfl, Option.some.inj h, ht.trans hH⟩) (fun q h => by cases h) dX0_worthOf_40 hlocks
    · have h := jf c2 h
      refine lv_aload_n hx hb dX0_worthOf_8 rfl (lv_at hl 0 rfl) ?_
      refine va_get (D := D) (ci := 0) (v := .int (vh.2 3)) (C := RX0) (T := TX0) (N := 12) hx hb hts in_X0_worthOf_X0 hown hK.1 hP 0 rfl rfl 11 (by decide) (hts _ kw_X0_worthOf_1) (fun _ h9 => h9) rfl dX0_worthOf_9 ?_
      refine lv_aload_n hx hb dX0_worthOf_12 rfl (lv_at hl 0 rfl) ?_
      refine va_get (D := D) (ci := 0) (v := .ref (qa 7)) (C := RX0) (T := TX0) (N := 12) hx hb hts in_X0_worthOf_X0 hown hK.1 hP 0 rfl rfl 6 (by decide) (hts _ kw_X0_worthOf_2) (fun _ h9 => h9) rfl dX0_worthOf_13 ?_
      refine lv_iload_n hx hb dX0_worthOf_16 rfl (lv_at hl 1 rfl) ?_
      obtain ⟨g3, h⟩ := jn h
      refine jald hx hb hK hP 7 rfl _ rfl g3 dX0_worthOf_17 ?_
      refine lv_imul hx hb dX0_worthOf_18 ?_
      refine lv_aload_n hx hb dX0_worthOf_19 rfl (lv_at hl 0 rfl) ?_
      refine va_get (D := D) (ci := 0) (v := .ref (qa 8)) (C := RX0) (T := TX0) (N := 12) hx hb hts in_X0_worthOf_X0 hown hK.1 hP 0 rfl rfl 7 (by decide) (hts _ kw_X0_worthOf_3) (fun _ h9 => h9) rfl dX0_worthOf_20 ?_
      refine lv_iload_n hx hb dX0_worthOf_23 rfl (lv_at hl 1 rfl) ?_
      obtain ⟨g4, h⟩ := jn h
      refine jald hx hb hK hP 8 rfl _ rfl g4 dX0_worthOf_24 ?_
      refine lv_imul hx hb dX0_worthOf_25 ?_
      refine lv_bipush (v := (100 : Int32)) hx hb dX0_worthOf_26 (by decide) ?_
      refine lv_aload_n hx hb dX0_worthOf_28 rfl (lv_at hl 0 rfl) ?_
      refine va_get (D := D) (ci := 0) (v := .ref (qa 6)) (C := RX0) (T := TX0) (N := 12) hx hb hts in_X0_worthOf_X0 hown hK.1 hP 0 rfl rfl 5 (by decide) (hts _ kw_X0_worthOf_4) (fun _ h9 => h9) rfl dX0_worthOf_29 ?_
      refine lv_iload_n hx hb dX0_worthOf_32 rfl (lv_at hl 1 rfl) ?_
      obtain ⟨g5, h⟩ := jn h
      refine jald hx hb hK hP 6 rfl _ rfl g5 dX0_worthOf_33 ?_
      refine lv_imul hx hb dX0_worthOf_34 ?_
      refine lv_isub hx hb dX0_worthOf_35 ?_
      refine lv_goto (tgt := 40) hx hb dX0_worthOf_36 (by decide) ?_
      exact W.iret hx hb hr (fun t ht _ => ⟨_, rfl, Option.some.inj h, ht.trans hH⟩) (fun q h => by cases h) dX0_worthOf_40 hlocks
  exact key s.heap hP rfl
theorem kw_X1_isAtRest_1 : (.fieldLink RX1 9 "BellTheCat$Offers" "living" "I" : Cond) ∈ wsX1_isAtRest := List.mem_of_getElem? (i := 1) rfl
theorem kw_X1_isAtRest_2 : (.fieldLink RX1 24 "BellTheCat$Offers" "tempted" "I" : Cond) ∈ wsX1_isAtRest := List.mem_of_getElem? (i := 2) rfl
theorem kw_X1_isAtRest_3 : (.fieldLink RX1 21 "BellTheCat$Offers" "gladAlone" "I" : Cond) ∈ wsX1_isAtRest := List.mem_of_getElem? (i := 3) rfl
theorem kw_X1_isAtRest_4 : (.fieldLink RX1 15 "BellTheCat$Offers" "glad" "I" : Cond) ∈ wsX1_isAtRest := List.mem_of_getElem? (i := 4) rfl
theorem kw_X1_isAtRest_5 : (.fieldLink RX1 18 "BellTheCat$Offers" "loath" "I" : Cond) ∈ wsX1_isAtRest := List.mem_of_getElem? (i := 5) rfl
theorem in_X1_isAtRest_X1 : ∀ w ∈ wsX10, w ∈ wsX1_isAtRest := fun w h => List.mem_cons_of_mem _ (List.mem_append_right _ h)
abbrev rm_X1_isAtRest : Room := { frames := 1, cells := 0, slots := 0, locals := 20 }
set_option maxHeartbeats 4000000 in
set_option maxRecDepth 100000 in
theorem c_X1_isAtRest (l : Launch) (D : va_G) (cyI cyZ cyT : ClassId) (qa : Nat → Nat) (a1 : Int32) (vof : Mo) (o : Int32) (hf : f_X1_isAtRest a1 vof = some o) : Met l yX1_isAtRest wsX1_isAtRest rm_X1_isAtRest (va_Pc [.ref (qa 0), .int a1] (jB D cyI cyZ cyT (wO qa vof))) (jSi o) 0 0 (fun _ => False) := by
  refine Met.ofW (cc := cX1_isAtRest) (maxL := 4) (ret := (some .boolean)) (by decide) rfl ?_
  intro p e s m args below meth c s₁ B hml hv
  obtain ⟨rfl, hP, hK⟩ := hv
  have hx := B.exec
  have hb := B.bytes
  have hr := B.returns
  have hts := atoms_spec (ws := wsX1_isAtRest) B.pre
  have hown : s.vm.findClass RX1 = some m.cls := findClass_of_methodNamed B.named
  have hlocks := B.notSynchronized
  have hl := lv_entry ([.ref (qa 0), .int a1]) (n := 4) (Nat.le_of_ble_eq_true rfl)
  rw [lg_entry_eq]
  generalize (lg_sl ([.ref (qa 0), .int a1]) ++ List.replicate (4 - (lg_sl ([.ref (qa 0), .int a1])).length) Slot.unset).toArray = ls at hl ⊢
  have hl : lv_has ls 4 [(0, .ref (qa 0)), (1, .int a1)] := hl
  clear B
  generalize ([.ref (qa 0), .int a1] : List Value).toArray = args at hts ⊢
  have key : ∀ (H : Heap), va_P D vwCl (wO qa vof) H → H = s.heap → W p l e rm_X1_isAtRest s m args below meth c H [] 0 0 (MQ below (jSi o) args s 0 0 (fun _ => False)) (F0 m 0 ls []) := by
    intro H hP hH
    have h := hf
    unfold f_X1_isAtRest at h
    refine lv_iload_n hx hb dX1_isAtRest_0 rfl (lv_at hl 1 rfl) ?_
    refine lv_aload_n hx hb dX1_isAtRest_1 rfl (lv_at hl 0 rfl) ?_
    refine va_get (D := D) (ci := 1) (v := .int (vof.2 0)) (C := RX1) (T := TX1) (N := 5) hx hb hts in_X1_isAtRest_X1 hown hK.1 hP 0 rfl rfl 0 (by decide) (hts _ kw_X1_isAtRest_1) (fun _ h9 => h9) rfl dX1_isAtRest_2 ?_
    refine lv_iconst (v := (-1 : Int32)) hx hb dX1_isAtRest_5 (by decide) ?_
    refine lv_ixor hx hb dX1_isAtRest_6 ?_
    refine lv_iand hx hb dX1_isAtRest_7 ?_
    refine lv_if_eq (tgt := 13) hx hb dX1_isAtRest_8 (by decide) (fun c1 => ?_) (fun c1 => ?_)
    · have h := jt c1 h
      refine lv_iload_n hx hb dX1_isAtRest_13 rfl (lv_at hl 1 rfl) ?_
      refine lv_if_ne (tgt := 35) hx hb dX1_isAtRest_14 (by decide) (fun c2 => ?_) (fun c2 => ?_)
      · have h := jf c2 h
        refine lv_aload_n hx hb dX1_isAtRest_35 rfl (lv_at hl 0 rfl) ?_
        refine va_get (D := D) (ci := 1) (v := .int (vof.2 0)) (C := RX1) (T := TX1) (N := 5) hx hb hts in_X1_isAtRest_X1 hown hK.1 hP 0 rfl rfl 0 (by decide) (hts _ kw_X1_isAtRest_1) (fun _ h9 => h9) rfl dX1_isAtRest_36 ?_
        refine lv_iload_n hx hb dX1_isAtRest_39 rfl (lv_at hl 1 rfl) ?_
        refine lv_iconst (v := (-1 : Int32)) hx hb dX1_isAtRest_40 (by decide) ?_
        refine lv_ixor hx hb dX1_isAtRest_41 ?_
        refine lv_iand hx hb dX1_isAtRest_42 ?_
        refine lv_istore_n (lv' := [(2, .int ((vof.2 0) &&& (a1 ^^^ (-1 : Int32)))), (0, .ref (qa 0)), (1, .int a1)]) hx hb dX1_isAtRest_43 rfl hl (by decide) rfl (fun ls hl => ?_)
        refine lv_iload_n hx hb dX1_isAtRest_44 rfl (lv_at hl 2 rfl) ?_
        obtain ⟨z3, hz3, h⟩ := jb h
        refine jki (jrS (As := [.int a1]) (rest := []) ⟨hx, hb, hml, hown, hts⟩ (c_J6_bitCount_0f7a4 l D cyI cyZ cyT   a1 z3 hz3) (va_cwS 1 hts gX1_isAtRest_J6_bitCount_0f7a4 rfl rfl rfl (by decide +kernel) ⟨Nat.le_of_ble_eq_true rfl, Nat.le_of_ble_eq_true rfl⟩) hK jP0 rfl rfl hl.1 (Nat.le_of_ble_eq_true rfl) dX1_isAtRest_45 ⟨Nat.le_of_ble_eq_true rfl, Nat.le_of_ble_eq_true rfl⟩) ?_
        clear hz3
        refine lv_iconst (v := (1 : Int32)) hx hb dX1_isAtRest_48 (by decide) ?_
        obtain ⟨z4, hz4, h⟩ := jb h
        have hk4 : ∀ (ls : Array Slot), lv_has ls 4 [(0, .ref (qa 0)), (1, .int a1), (2, .int ((vof.2 0) &&& (a1 ^^^ (-1 : Int32))))] → W p l e rm_X1_isAtRest s m args below meth c H [] 0 0 (MQ below (jSi o) args s 0 0 (fun _ => False)) (F0 m 63 ls [.int z4]) := by
          intro ls hl
          refine lv_istore_n (lv' := [(3, .int z4), (0, .ref (qa 0)), (1, .int a1), (2, .int ((vof.2 0) &&& (a1 ^^^ (-1 : Int32))))]) hx hb dX1_isAtRest_63 rfl hl (by decide) rfl (fun ls hl => ?_)
          refine lv_iload_n hx hb dX1_isAtRest_64 rfl (lv_at hl 3 rfl) ?_
          refine lv_aload_n hx hb dX1_isAtRest_65 rfl (lv_at hl 1 rfl) ?_
          refine va_get (D := D) (ci := 1) (v := .int (vof.2 2)) (C := RX1) (T := TX1) (N := 5) hx hb hts in_X1_isAtRest_X1 hown hK.1 hP 0 rfl rfl 2 (by decide) (hts _ kw_X1_isAtRest_5) (fun _ h9 => h9) rfl dX1_isAtRest_66 ?_
          refine lv_iconst (v := (-1 : Int32)) hx hb dX1_isAtRest_69 (by decide) ?_
          refine lv_ixor hx hb dX1_isAtRest_70 ?_
          refine lv_iand hx hb dX1_isAtRest_71 ?_
          refine lv_if_ne (tgt := 87) hx hb dX1_isAtRest_72 (by decide) (fun c6 => ?_) (fun c6 => ?_)
          · have h := jf c6 h
            refine lv_iconst (v := (0 : Int32)) hx hb dX1_isAtRest_87 (by decide) ?_
            exact W.zret hx hb hr rfl (fun t ht _ => ⟨_, rfl, Option.some.inj h, ht.trans hH⟩) (fun q h => by cases h) dX1_isAtRest_88 hlocks
          · have h := jt c6 h
            refine lv_iload_n hx hb dX1_isAtRest_75 rfl (lv_at hl 2 rfl) ?_
            refine lv_iload_n hx hb dX1_isAtRest_76 rfl (lv_at hl 0 rfl) ?_
            refine lv_iconst (v := (-1 : Int32)) hx hb dX1_isAtRest_77 (by decide) ?_
            refine lv_ixor hx hb dX1_isAtRest_78 ?_
            refine lv_iand hx hb dX1_isAtRest_79 ?_
            refine lv_if_ne (tgt := 87) hx hb dX1_isAtRest_80 (by decide) (fun c7 => ?_) (fun c7 => ?_)
            · have h := jf c7 h
              refine lv_iconst (v := (0 : Int32)) hx hb dX1_isAtRest_87 (by decide) ?_
              exact W.zret hx hb hr rfl (fun t ht _ => ⟨_, rfl, Option.some.inj h, ht.trans hH⟩) (fun q h => by cases h) dX1_isAtRest_88 hlocks
            · have h := jt c7 h
              refine lv_iconst (v := (1 : Int32)) hx hb dX1_isAtRest_83 (by decide) ?_
              refine lv_goto (tgt := 88) hx hb dX1_isAtRest_84 (by decide) ?_
              exact W.zret hx hb hr rfl (fun t ht _ => ⟨_, rfl, Option.some.inj h, ht.trans hH⟩) (fun q h => by cases h) dX1_isAtRest_88 hlocks
        clear h
        have h := hz4
        clear hz4
        refine lv_icmp_ne (tgt := 59) hx hb dX1_isAtRest_49 (by decide) (fun c5 => ?_) (fun c5 => ?_)
        · have h := jf c5 h
          refine lv_aload_n hx hb dX1_isAtRest_59 rfl (lv_at hl 1 rfl) ?_
          refine va_get (D := D) (ci := 1) (v := .int (vof.2 1)) (C := RX1) (T := TX1) (N := 5) hx hb hts in_X1_isAtRest_X1 hown hK.1 hP 0 rfl rfl 1 (by decide) (hts _ kw_X1_isAtRest_4) (fun _ h9 => h9) rfl dX1_isAtRest_60 ?_
          obtain rfl := Option.some.inj h
          exact hk4 ls (lv_sub hl [1, 2, 0] rfl)
        · have h := jt c5 h
          refine lv_aload_n hx hb dX1_isAtRest_52 rfl (lv_at hl 1 rfl) ?_
          refine va_get (D := D) (ci := 1) (v := .int (vof.2 3)) (C := RX1) (T := TX1) (N := 5) hx hb hts in_X1_isAtRest_X1 hown hK.1 hP 0 rfl rfl 3 (by decide) (hts _ kw_X1_isAtRest_3) (fun _ h9 => h9) rfl dX1_isAtRest_53 ?_
          refine lv_goto (tgt := 63) hx hb dX1_isAtRest_56 (by decide) ?_
          obtain rfl := Option.some.inj h
          exact hk4 ls (lv_sub hl [1, 2, 0] rfl)
      · have h := jt c2 h
        refine lv_aload_n hx hb dX1_isAtRest_17 rfl (lv_at hl 0 rfl) ?_
        refine va_get (D := D) (ci := 1) (v := .int (vof.2 0)) (C := RX1) (T := TX1) (N := 5) hx hb hts in_X1_isAtRest_X1 hown hK.1 hP 0 rfl rfl 0 (by decide) (hts _ kw_X1_isAtRest_1) (fun _ h9 => h9) rfl dX1_isAtRest_18 ?_
        refine lv_aload_n hx hb dX1_isAtRest_21 rfl (lv_at hl 0 rfl) ?_
        refine va_get (D := D) (ci := 1) (v := .int (vof.2 4)) (C := RX1) (T := TX1) (N := 5) hx hb hts in_X1_isAtRest_X1 hown hK.1 hP 0 rfl rfl 4 (by decide) (hts _ kw_X1_isAtRest_2) (fun _ h9 => h9) rfl dX1_isAtRest_22 ?_
        refine lv_iand hx hb dX1_isAtRest_25 ?_
        refine lv_if_ne (tgt := 33) hx hb dX1_isAtRest_26 (by decide) (fun c8 => ?_) (fun c8 => ?_)
        · have h := jf c8 h
          refine lv_iconst (v := (0 : Int32)) hx hb dX1_isAtRest_33 (by decide) ?_
          exact W.zret hx hb hr rfl (fun t ht _ => ⟨_, rfl, Option.some.inj h, ht.trans hH⟩) (fun q h => by cases h) dX1_isAtRest_34 hlocks
        · have h := jt c8 h
          refine lv_iconst (v := (1 : Int32)) hx hb dX1_isAtRest_29 (by decide) ?_
          refine lv_goto (tgt := 34) hx hb dX1_isAtRest_30 (by decide) ?_
          exact W.zret hx hb hr rfl (fun t ht _ => ⟨_, rfl, Option.some.inj h, ht.trans hH⟩) (fun q h => by cases h) dX1_isAtRest_34 hlocks
    · have h := jf c1 h
      refine lv_iconst (v := (0 : Int32)) hx hb dX1_isAtRest_11 (by decide) ?_
      exact W.zret hx hb hr rfl (fun t ht _ => ⟨_, rfl, Option.some.inj h, ht.trans hH⟩) (fun q h => by cases h) dX1_isAtRest_12 hlocks
  exact key s.heap hP rfl
abbrev rm_X1_howManyRest : Room := { frames := 2, cells := 0, slots := 0, locals := 43 }
set_option maxHeartbeats 4000000 in
set_option maxRecDepth 100000 in
theorem c_X1_howManyRest (l : Launch) (D : va_G) (cyI cyZ cyT : ClassId) (qa : Nat → Nat) (N : Nat) (vof : Mo) (o : Int32) (hf : f_X1_howManyRest N vof = some o) : Met l yX1_howManyRest wsX1_howManyRest rm_X1_howManyRest (va_Pc [.ref (qa 0)] (jB D cyI cyZ cyT (wO qa vof))) (jSi o) 0 0 (fun _ => False) := by
  refine Met.ofW (cc := cX1_howManyRest) (maxL := 3) (ret := (some .int)) (by decide) rfl ?_
  intro p e s m args below meth c s₁ B hml hv
  obtain ⟨rfl, hP, hK⟩ := hv
  have hx := B.exec
  have hb := B.bytes
  have hr := B.returns
  have hts := atoms_spec (ws := wsX1_howManyRest) B.pre
  have hown : s.vm.findClass RX1 = some m.cls := findClass_of_methodNamed B.named
  have hlocks := B.notSynchronized
  have hl := lv_entry ([.ref (qa 0)]) (n := 3) (Nat.le_of_ble_eq_true rfl)
  rw [lg_entry_eq]
  generalize (lg_sl ([.ref (qa 0)]) ++ List.replicate (3 - (lg_sl ([.ref (qa 0)])).length) Slot.unset).toArray = ls at hl ⊢
  have hl : lv_has ls 3 [(0, .ref (qa 0))] := hl
  clear B
  generalize ([.ref (qa 0)] : List Value).toArray = args at hts ⊢
  have key : ∀ (H : Heap), va_P D vwCl (wO qa vof) H → H = s.heap → W p l e rm_X1_howManyRest s m args below meth c H [] 0 0 (MQ below (jSi o) args s 0 0 (fun _ => False)) (F0 m 0 ls []) := by
    intro H hP hH
    have h := hf
    unfold f_X1_howManyRest at h
    refine lv_iconst (v := (0 : Int32)) hx hb dX1_howManyRest_0 (by decide) ?_
    refine lv_istore_n (lv' := [(1, .int (0 : Int32)), (0, .ref (qa 0))]) hx hb dX1_howManyRest_1 rfl hl (by decide) rfl (fun ls hl => ?_)
    refine lv_iconst (v := (0 : Int32)) hx hb dX1_howManyRest_2 (by decide) ?_
    refine lv_istore_n (lv' := [(2, .int (0 : Int32)), (1, .int (0 : Int32)), (0, .ref (qa 0))]) hx hb dX1_howManyRest_3 rfl hl (by decide) rfl (fun ls hl => ?_)
    obtain ⟨r1, hz1, h1_⟩ := jb h
    have hex1 : ∀ e1 : Int32, r1 = e1 → ∀ (ls : Array Slot), lv_has ls 3 [(1, .int e1)] → W p l e rm_X1_howManyRest s m args below meth c H [] 0 0 (MQ below (jSi o) args s 0 0 (fun _ => False)) (F0 m 32 ls []) := by
      intro e1 he ls hl
      rw [he] at h1_
      have h := h1_
      clear hz1
      refine lv_iload_n hx hb dX1_howManyRest_32 rfl (lv_at hl 0 rfl) ?_
      exact W.iret hx hb hr (fun t ht _ => ⟨_, rfl, Option.some.inj h, ht.trans hH⟩) (fun q h => by cases h) dX1_howManyRest_33 hlocks
    have hlp1 : ∀ (nn : Nat) (z1 : (Int32 × Int32)), jw (X1_howManyRest_s4 vof) nn z1 = some r1 → ∀ (ls : Array Slot), lv_has ls 3 [(0, .ref (qa 0)), (1, .int z1.1), (2, .int z1.2)] → W p l e rm_X1_howManyRest s m args below meth c H [] 0 0 (MQ below (jSi o) args s 0 0 (fun _ => False)) (F0 m 4 ls []) := by
      refine jw_P (r := r1) (P := fun z1 : (Int32 × Int32) => ∀ (ls : Array Slot), lv_has ls 3 [(0, .ref (qa 0)), (1, .int z1.1), (2, .int z1.2)] → W p l e rm_X1_howManyRest s m args below meth c H [] 0 0 (MQ below (jSi o) args s 0 0 (fun _ => False)) (F0 m 4 ls [])) ?_
      intro z1 x1 h hin hout ls hl
      unfold X1_howManyRest_s4 at h
      refine lv_iload_n hx hb dX1_howManyRest_4 rfl (lv_at hl 2 rfl) ?_
      refine lv_bipush (v := (64 : Int32)) hx hb dX1_howManyRest_5 (by decide) ?_
      refine lv_icmp_ge (tgt := 32) hx hb dX1_howManyRest_7 (by decide) (fun c2 => ?_) (fun c2 => ?_)
      · have h := jt c2 h
        exact hex1 _ (hout _ (Option.some.inj h).symm).symm ls (lv_sub hl [1] rfl)
      · have h := jf c2 h
        refine lv_iload_n hx hb dX1_howManyRest_10 rfl (lv_at hl 1 rfl) ?_
        refine lv_aload_n hx hb dX1_howManyRest_11 rfl (lv_at hl 0 rfl) ?_
        refine lv_iload_n hx hb dX1_howManyRest_12 rfl (lv_at hl 2 rfl) ?_
        obtain ⟨z3, hz3, h⟩ := jb h
        refine jki (jrV (As := [.int z1.2]) (rest := [.int z1.1]) ⟨hx, hb, hml, hown, hts⟩ (c_X1_isAtRest l D cyI cyZ cyT qa  z1.2 vof z3 hz3) (cwV 1 hts gX1_howManyRest_X1_isAtRest rfl rfl rfl (by decide +kernel) ⟨Nat.le_of_ble_eq_true rfl, Nat.le_of_ble_eq_true rfl⟩) hK hP rfl 1 0 rfl rfl rfl hl.1 (Nat.le_of_ble_eq_true rfl) dX1_howManyRest_13 ⟨Nat.le_of_ble_eq_true rfl, Nat.le_of_ble_eq_true rfl⟩) ?_
        clear hz3
        obtain ⟨z4, hz4, h⟩ := jb h
        have hk4 : ∀ (ls : Array Slot), lv_has ls 3 [(0, .ref (qa 0)), (2, .int z1.2)] → W p l e rm_X1_howManyRest s m args below meth c H [] 0 0 (MQ below (jSi o) args s 0 0 (fun _ => False)) (F0 m 24 ls [.int z4, .int z1.1]) := by
          intro ls hl
          refine lv_iadd hx hb dX1_howManyRest_24 ?_
          refine lv_istore_n (lv' := [(1, .int (z1.1 + z4)), (0, .ref (qa 0)), (2, .int z1.2)]) hx hb dX1_howManyRest_25 rfl hl (by decide) rfl (fun ls hl => ?_)
          refine lv_iinc (v := z1.2 + (1 : Int32)) (lv' := [(2, .int (z1.2 + (1 : Int32))), (1, .int (z1.1 + z4)), (0, .ref (qa 0))]) hx hb dX1_howManyRest_26 hl (k := 2) rfl rfl (by decide) rfl (fun ls hl => ?_)
          refine lv_goto (tgt := 4) hx hb dX1_howManyRest_29 (by decide) ?_
          exact hin _ (Option.some.inj h).symm ls (lv_sub hl [2, 1, 0] rfl)
        clear h
        have h := hz4
        clear hz4
        refine lv_if_eq (tgt := 23) hx hb dX1_howManyRest_16 (by decide) (fun c5 => ?_) (fun c5 => ?_)
        · have h := jt c5 h
          refine lv_iconst (v := (0 : Int32)) hx hb dX1_howManyRest_23 (by decide) ?_
          obtain rfl := Option.some.inj h
          exact hk4 ls (lv_sub hl [0, 2] rfl)
        · have h := jf c5 h
          refine lv_iconst (v := (1 : Int32)) hx hb dX1_howManyRest_19 (by decide) ?_
          refine lv_goto (tgt := 24) hx hb dX1_howManyRest_20 (by decide) ?_
          obtain rfl := Option.some.inj h
          exact hk4 ls (lv_sub hl [0, 2] rfl)
    exact hlp1 _ _ hz1 ls (lv_sub hl [2, 1, 0] rfl)
  exact key s.heap hP rfl
abbrev rm_X1_leastAtRest : Room := { frames := 2, cells := 0, slots := 0, locals := 43 }
set_option maxHeartbeats 4000000 in
set_option maxRecDepth 100000 in
theorem c_X1_leastAtRest (l : Launch) (D : va_G) (cyI cyZ cyT : ClassId) (qa : Nat → Nat) (N : Nat) (vof : Mo) (o : Int32) (hf : f_X1_leastAtRest N vof = some o) : Met l yX1_leastAtRest wsX1_leastAtRest rm_X1_leastAtRest (va_Pc [.ref (qa 0)] (jB D cyI cyZ cyT (wO qa vof))) (jSi o) 0 0 (fun _ => False) := by
  refine Met.ofW (cc := cX1_leastAtRest) (maxL := 2) (ret := (some .int)) (by decide) rfl ?_
  intro p e s m args below meth c s₁ B hml hv
  obtain ⟨rfl, hP, hK⟩ := hv
  have hx := B.exec
  have hb := B.bytes
  have hr := B.returns
  have hts := atoms_spec (ws := wsX1_leastAtRest) B.pre
  have hown : s.vm.findClass RX1 = some m.cls := findClass_of_methodNamed B.named
  have hlocks := B.notSynchronized
  have hl := lv_entry ([.ref (qa 0)]) (n := 2) (Nat.le_of_ble_eq_true rfl)
  rw [lg_entry_eq]
  generalize (lg_sl ([.ref (qa 0)]) ++ List.replicate (2 - (lg_sl ([.ref (qa 0)])).length) Slot.unset).toArray = ls at hl ⊢
  have hl : lv_has ls 2 [(0, .ref (qa 0))] := hl
  clear B
  generalize ([.ref (qa 0)] : List Value).toArray = args at hts ⊢
  have key : ∀ (H : Heap), va_P D vwCl (wO qa vof) H → H = s.heap → W p l e rm_X1_leastAtRest s m args below meth c H [] 0 0 (MQ below (jSi o) args s 0 0 (fun _ => False)) (F0 m 0 ls []) := by
    intro H hP hH
    have h := hf
    unfold f_X1_leastAtRest at h
    refine lv_iconst (v := (0 : Int32)) hx hb dX1_leastAtRest_0 (by decide) ?_
    refine lv_istore_n (lv' := [(1, .int (0 : Int32)), (0, .ref (qa 0))]) hx hb dX1_leastAtRest_1 rfl hl (by decide) rfl (fun ls hl => ?_)
    obtain ⟨r1, hz1, h1_⟩ := jb h
    have hex1 : ∀ e1 : Unit, r1 = .inl e1 → ∀ (ls : Array Slot), lv_has ls 2 [] → W p l e rm_X1_leastAtRest s m args below meth c H [] 0 0 (MQ below (jSi o) args s 0 0 (fun _ => False)) (F0 m 24 ls []) := by
      intro e1 he ls hl
      have h := jsl h1_ he
      clear hz1
      refine lv_iconst (v := (-1 : Int32)) hx hb dX1_leastAtRest_24 (by decide) ?_
      exact W.iret hx hb hr (fun t ht _ => ⟨_, rfl, Option.some.inj h, ht.trans hH⟩) (fun q h => by cases h) dX1_leastAtRest_25 hlocks
    have hlp1 : ∀ (nn : Nat) (z1 : Int32), jw (X1_leastAtRest_s2 vof) nn z1 = some r1 → ∀ (ls : Array Slot), lv_has ls 2 [(0, .ref (qa 0)), (1, .int z1)] → W p l e rm_X1_leastAtRest s m args below meth c H [] 0 0 (MQ below (jSi o) args s 0 0 (fun _ => False)) (F0 m 2 ls []) := by
      refine jw_P (r := r1) (P := fun z1 : Int32 => ∀ (ls : Array Slot), lv_has ls 2 [(0, .ref (qa 0)), (1, .int z1)] → W p l e rm_X1_leastAtRest s m args below meth c H [] 0 0 (MQ below (jSi o) args s 0 0 (fun _ => False)) (F0 m 2 ls [])) ?_
      intro z1 x1 h hin hout ls hl
      unfold X1_leastAtRest_s2 at h
      refine lv_iload_n hx hb dX1_leastAtRest_2 rfl (lv_at hl 1 rfl) ?_
      refine lv_bipush (v := (64 : Int32)) hx hb dX1_leastAtRest_3 (by decide) ?_
      refine lv_icmp_ge (tgt := 24) hx hb dX1_leastAtRest_5 (by decide) (fun c2 => ?_) (fun c2 => ?_)
      · have h := jt c2 h
        exact hex1 _ (hout _ (Option.some.inj h).symm).symm ls (lv_sub hl [] rfl)
      · have h := jf c2 h
        refine lv_aload_n hx hb dX1_leastAtRest_8 rfl (lv_at hl 0 rfl) ?_
        refine lv_iload_n hx hb dX1_leastAtRest_9 rfl (lv_at hl 1 rfl) ?_
        obtain ⟨z3, hz3, h⟩ := jb h
        refine jki (jrV (As := [.int z1]) (rest := []) ⟨hx, hb, hml, hown, hts⟩ (c_X1_isAtRest l D cyI cyZ cyT qa  z1 vof z3 hz3) (cwV 1 hts gX1_leastAtRest_X1_isAtRest rfl rfl rfl (by decide +kernel) ⟨Nat.le_of_ble_eq_true rfl, Nat.le_of_ble_eq_true rfl⟩) hK hP rfl 1 0 rfl rfl rfl hl.1 (Nat.le_of_ble_eq_true rfl) dX1_leastAtRest_10 ⟨Nat.le_of_ble_eq_true rfl, Nat.le_of_ble_eq_true rfl⟩) ?_
        clear hz3
        refine lv_if_eq (tgt := 18) hx hb dX1_leastAtRest_13 (by decide) (fun c4 => ?_) (fun c4 => ?_)
        · have h := jt c4 h
          refine lv_iinc (v := z1 + (1 : Int32)) (lv' := [(1, .int (z1 + (1 : Int32))), (0, .ref (qa 0))]) hx hb dX1_leastAtRest_18 hl (k := 1) rfl rfl (by decide) rfl (fun ls hl => ?_)
          refine lv_goto (tgt := 2) hx hb dX1_leastAtRest_21 (by decide) ?_
          exact hin _ (Option.some.inj h).symm ls (lv_sub hl [1, 0] rfl)
        · have h := jf c4 h
          refine lv_iload_n hx hb dX1_leastAtRest_16 rfl (lv_at hl 1 rfl) ?_
          have h := jsr h1_ (hout _ (Option.some.inj h).symm).symm
          exact W.iret hx hb hr (fun t ht _ => ⟨_, rfl, Option.some.inj h, ht.trans hH⟩) (fun q h => by cases h) dX1_leastAtRest_17 hlocks
    exact hlp1 _ _ hz1 ls (lv_sub hl [1, 0] rfl)
  exact key s.heap hP rfl
abbrev rm_X7_power : Room := { frames := 0, cells := 0, slots := 0, locals := 0 }
set_option maxHeartbeats 4000000 in
set_option maxRecDepth 100000 in
theorem c_X7_power (l : Launch) (D : va_G) (cyI cyZ cyT : ClassId) (N : Nat) (a0 : Int32) (a1 : Int32) (o : Int64) (hf : f_X7_power N a0 a1 = some o) : Met l yX7_power wsX7_power rm_X7_power (va_Pc [.int a0, .int a1] (jB D cyI cyZ cyT ([]))) (jSl o) 0 0 (fun _ => False) := by
  refine Met.ofW (cc := cX7_power) (maxL := 5) (ret := (some .long)) (by decide) rfl ?_
  intro p e s m args below meth c s₁ B hml hv
  obtain ⟨rfl, hP, hK⟩ := hv
  have hx := B.exec
  have hb := B.bytes
  have hr := B.returns
  have hts := atoms_spec (ws := wsX7_power) B.pre
  have hown : s.vm.findClass RX7 = some m.cls := findClass_of_methodNamed B.named
  have hlocks := B.notSynchronized
  have hl := lv_entry ([.int a0, .int a1]) (n := 5) (Nat.le_of_ble_eq_true rfl)
  rw [lg_entry_eq]
  generalize (lg_sl ([.int a0, .int a1]) ++ List.replicate (5 - (lg_sl ([.int a0, .int a1])).length) Slot.unset).toArray = ls at hl ⊢
  have hl : lv_has ls 5 [(0, .int a0), (1, .int a1)] := hl
  clear B
  generalize ([.int a0, .int a1] : List Value).toArray = args at hts ⊢
  have key : ∀ (H : Heap), va_P D vwCl ([]) H → H = s.heap → W p l e rm_X7_power s m args below meth c H [] 0 0 (MQ below (jSl o) args s 0 0 (fun _ => False)) (F0 m 0 ls []) := by
    intro H hP hH
    have h := hf
    unfold f_X7_power at h
    refine lv_lconst (v := (1 : Int64)) hx hb dX7_power_0 (by decide) ?_
    refine lv_lstore_n (lv' := [(2, .long (1 : Int64)), (0, .int a0), (1, .int a1)]) hx hb dX7_power_1 rfl hl (by decide) rfl (fun ls hl => ?_)
    refine lv_iconst (v := (0 : Int32)) hx hb dX7_power_2 (by decide) ?_
    refine lv_istore (lv' := [(4, .int (0 : Int32)), (2, .long (1 : Int64)), (0, .int a0), (1, .int a1)]) hx hb dX7_power_3 hl (by decide) rfl (fun ls hl => ?_)
    obtain ⟨r1, hz1, h1_⟩ := jb h
    have hex1 : ∀ e1 : Int64, r1 = e1 → ∀ (ls : Array Slot), lv_has ls 5 [(2, .long e1)] → W p l e rm_X7_power s m args below meth c H [] 0 0 (MQ below (jSl o) args s 0 0 (fun _ => False)) (F0 m 22 ls []) := by
      intro e1 he ls hl
      rw [he] at h1_
      have h := h1_
      clear hz1
      refine lv_lload_n hx hb dX7_power_22 rfl (lv_at hl 0 rfl) ?_
      exact W.lret hx hb hr (fun t ht _ => ⟨_, rfl, Option.some.inj h, ht.trans hH⟩) (fun q h => by cases h) dX7_power_23 hlocks
    have hlp1 : ∀ (nn : Nat) (z1 : (Int64 × Int32)), jw (X7_power_s5 a0 a1) nn z1 = some r1 → ∀ (ls : Array Slot), lv_has ls 5 [(0, .int a0), (1, .int a1), (2, .long z1.1), (4, .int z1.2)] → W p l e rm_X7_power s m args below meth c H [] 0 0 (MQ below (jSl o) args s 0 0 (fun _ => False)) (F0 m 5 ls []) := by
      refine jw_P (r := r1) (P := fun z1 : (Int64 × Int32) => ∀ (ls : Array Slot), lv_has ls 5 [(0, .int a0), (1, .int a1), (2, .long z1.1), (4, .int z1.2)] → W p l e rm_X7_power s m args below meth c H [] 0 0 (MQ below (jSl o) args s 0 0 (fun _ => False)) (F0 m 5 ls [])) ?_
      intro z1 x1 h hin hout ls hl
      unfold X7_power_s5 at h
      refine lv_iload hx hb dX7_power_5 (lv_at hl 3 rfl) ?_
      refine lv_iload_n hx hb dX7_power_7 rfl (lv_at hl 1 rfl) ?_
      refine lv_icmp_ge (tgt := 22) hx hb dX7_power_8 (by decide) (fun c2 => ?_) (fun c2 => ?_)
      · have h := jt c2 h
        exact hex1 _ (hout _ (Option.some.inj h).symm).symm ls (lv_sub hl [2] rfl)
      · have h := jf c2 h
        refine lv_lload_n hx hb dX7_power_11 rfl (lv_at hl 2 rfl) ?_
        refine lv_iload_n hx hb dX7_power_12 rfl (lv_at hl 0 rfl) ?_
        refine lv_i2l (v := a0.toInt64) hx hb dX7_power_13 rfl ?_
        refine lv_lmul hx hb dX7_power_14 ?_
        refine lv_lstore_n (lv' := [(2, .long (z1.1 * a0.toInt64)), (0, .int a0), (1, .int a1), (4, .int z1.2)]) hx hb dX7_power_15 rfl hl (by decide) rfl (fun ls hl => ?_)
        refine lv_iinc (v := z1.2 + (1 : Int32)) (lv' := [(4, .int (z1.2 + (1 : Int32))), (2, .long (z1.1 * a0.toInt64)), (0, .int a0), (1, .int a1)]) hx hb dX7_power_16 hl (k := 3) rfl rfl (by decide) rfl (fun ls hl => ?_)
        refine lv_goto (tgt := 5) hx hb dX7_power_19 (by decide) ?_
        exact hin _ (Option.some.inj h).symm ls (lv_sub hl [2, 3, 1, 0] rfl)
    exact hlp1 _ _ hz1 ls (lv_sub hl [2, 3, 1, 0] rfl)
  exact key s.heap hP rfl
abbrev rm_X7_tenTo : Room := { frames := 1, cells := 0, slots := 0, locals := 24 }
set_option maxHeartbeats 4000000 in
set_option maxRecDepth 100000 in
theorem c_X7_tenTo (l : Launch) (D : va_G) (cyI cyZ cyT : ClassId) (N : Nat) (a0 : Int32) (o : Int64) (hf : f_X7_tenTo N a0 = some o) : Met l yX7_tenTo wsX7_tenTo rm_X7_tenTo (va_Pc [.int a0] (jB D cyI cyZ cyT ([]))) (jSl o) 0 0 (fun _ => False) := by
  refine Met.ofW (cc := cX7_tenTo) (maxL := 1) (ret := (some .long)) (by decide) rfl ?_
  intro p e s m args below meth c s₁ B hml hv
  obtain ⟨rfl, hP, hK⟩ := hv
  have hx := B.exec
  have hb := B.bytes
  have hr := B.returns
  have hts := atoms_spec (ws := wsX7_tenTo) B.pre
  have hown : s.vm.findClass RX7 = some m.cls := findClass_of_methodNamed B.named
  have hlocks := B.notSynchronized
  have hl := lv_entry ([.int a0]) (n := 1) (Nat.le_of_ble_eq_true rfl)
  rw [lg_entry_eq]
  generalize (lg_sl ([.int a0]) ++ List.replicate (1 - (lg_sl ([.int a0])).length) Slot.unset).toArray = ls at hl ⊢
  have hl : lv_has ls 1 [(0, .int a0)] := hl
  clear B
  generalize ([.int a0] : List Value).toArray = args at hts ⊢
  have key : ∀ (H : Heap), va_P D vwCl ([]) H → H = s.heap → W p l e rm_X7_tenTo s m args below meth c H [] 0 0 (MQ below (jSl o) args s 0 0 (fun _ => False)) (F0 m 0 ls []) := by
    intro H hP hH
    have h := hf
    unfold f_X7_tenTo at h
    refine lv_bipush (v := (10 : Int32)) hx hb dX7_tenTo_0 (by decide) ?_
    refine lv_iload_n hx hb dX7_tenTo_2 rfl (lv_at hl 0 rfl) ?_
    obtain ⟨z1, hz1, h⟩ := jb h
    refine jkl (jrS (As := [.int (10 : Int32), .int a0]) (rest := []) ⟨hx, hb, hml, hown, hts⟩ (c_X7_power l D cyI cyZ cyT   N (10 : Int32) a0 z1 hz1) (va_cwS 2 hts gX7_tenTo_X7_power rfl rfl rfl (by decide +kernel) ⟨Nat.le_of_ble_eq_true rfl, Nat.le_of_ble_eq_true rfl⟩) hK jP0 rfl rfl hl.1 (Nat.le_of_ble_eq_true rfl) dX7_tenTo_3 ⟨Nat.le_of_ble_eq_true rfl, Nat.le_of_ble_eq_true rfl⟩) ?_
    clear hz1
    exact W.lret hx hb hr (fun t ht _ => ⟨_, rfl, Option.some.inj h, ht.trans hH⟩) (fun q h => by cases h) dX7_tenTo_6 hlocks
  exact key s.heap hP rfl
theorem kw_X1_weigh_1 : (.fieldLink RX1 9 "BellTheCat$Offers" "living" "I" : Cond) ∈ wsX1_weigh := List.mem_of_getElem? (i := 1) rfl
theorem kw_X1_weigh_2 : (.fieldLink RX1 15 "BellTheCat$Offers" "glad" "I" : Cond) ∈ wsX1_weigh := List.mem_of_getElem? (i := 2) rfl
theorem kw_X1_weigh_3 : (.fieldLink RX1 18 "BellTheCat$Offers" "loath" "I" : Cond) ∈ wsX1_weigh := List.mem_of_getElem? (i := 3) rfl
theorem kw_X1_weigh_4 : (.fieldLink RX1 21 "BellTheCat$Offers" "gladAlone" "I" : Cond) ∈ wsX1_weigh := List.mem_of_getElem? (i := 4) rfl
theorem kw_X1_weigh_5 : (.fieldLink RX1 24 "BellTheCat$Offers" "tempted" "I" : Cond) ∈ wsX1_weigh := List.mem_of_getElem? (i := 5) rfl
theorem kw_X1_weigh_6 : (.fieldLink RX1 27 "BellTheCat$House" "stepCount" "I" : Cond) ∈ wsX1_weigh := List.mem_of_getElem? (i := 6) rfl
theorem kw_X1_weigh_7 : (.fieldLink RX1 36 "BellTheCat$House" "gain" "I" : Cond) ∈ wsX1_weigh := List.mem_of_getElem? (i := 7) rfl
theorem kw_X1_weigh_8 : (.fieldLink RX1 39 "BellTheCat$House" "miceCount" "I" : Cond) ∈ wsX1_weigh := List.mem_of_getElem? (i := 8) rfl
theorem kw_X1_weigh_9 : (.static yX7_tenTo : Cond) ∈ wsX1_weigh := List.mem_of_getElem? (i := 9) rfl
theorem kw_X1_weigh_10 : (.initialized RX7 : Cond) ∈ wsX1_weigh := List.mem_of_getElem? (i := 10) rfl
theorem in_X1_weigh_X0 : ∀ w ∈ wsX00, w ∈ wsX1_weigh := fun w h => List.mem_cons_of_mem _ (List.mem_append_right _ h)
theorem in_X1_weigh_X1 : ∀ w ∈ wsX10, w ∈ wsX1_weigh := fun w h => List.mem_cons_of_mem _ (List.mem_append_left _ (List.mem_append_right _ h))
abbrev rm_X1_weigh : Room := { frames := 5, cells := 0, slots := 0, locals := 156 }
set_option maxHeartbeats 4000000 in
set_option maxRecDepth 100000 in
theorem c_X1_weigh (l : Launch) (D : va_G) (cyI cyZ cyT : ClassId) (qa qb : Nat → Nat) (sz : Nat) (N : Nat) (a2 : Int32) (a3 : Int32) (vof : Mo) (vh : Mo) (o : Mo) (hf : f_X1_weigh N a2 a3 vof vh = some o) : Met l yX1_weigh wsX1_weigh rm_X1_weigh (va_Pc [.ref (qa 0), .ref (qb 0), .int a2, .int a3] (jM D cyI cyZ cyT (wO qa vof ++ wH cyI qb vh) sz)) (jQv D (va_A (wO qa vof ++ wH cyI qb vh) sz) (fun u : Mo => wO qa u ++ wH cyI qb vh) o) 0 0 (va_A (wO qa vof ++ wH cyI qb vh) sz) := by
  refine Met.ofW (cc := cX1_weigh) (maxL := 13) (ret := none) (by decide) rfl ?_
  intro p e s m args below meth c s₁ B hml hv
  obtain ⟨rfl, hsz, hP, hK, hD0⟩ := hv
  have hx := B.exec
  have hb := B.bytes
  have hr := B.returns
  have hts := atoms_spec (ws := wsX1_weigh) B.pre
  have hown : s.vm.findClass RX1 = some m.cls := findClass_of_methodNamed B.named
  have hlocks := B.notSynchronized
  subst hsz
  have hD := hD0.self (sz := s.heap.size)
  generalize hAe : va_A (wO qa vof ++ wH cyI qb vh) s.heap.size = A at hD ⊢
  have hA : ∀ q : Nat, s.heap.size ≤ q → A q := fun q h => by rw [← hAe]; exact Or.inr h
  have hS : va_S A s.heap s.heap [] := va_S.rf
  have hl := lv_entry ([.ref (qa 0), .ref (qb 0), .int a2, .int a3]) (n := 13) (Nat.le_of_ble_eq_true rfl)
  rw [lg_entry_eq]
  generalize (lg_sl ([.ref (qa 0), .ref (qb 0), .int a2, .int a3]) ++ List.replicate (13 - (lg_sl ([.ref (qa 0), .ref (qb 0), .int a2, .int a3])).length) Slot.unset).toArray = ls at hl ⊢
  have hl : lv_has ls 13 [(0, .ref (qa 0)), (1, .ref (qb 0)), (2, .int a2), (3, .int a3)] := hl
  clear B
  generalize ([.ref (qa 0), .ref (qb 0), .int a2, .int a3] : List Value).toArray = args at hts ⊢
  have key : ∀ (H : Heap) (locs : List Loc), va_P D vwCl (wO qa vof ++ wH cyI qb vh) H → va_D A (wO qa vof ++ wH cyI qb vh) → va_S A s.heap H locs → W p l e rm_X1_weigh s m args below meth c H locs 0 0 (MQ below (jQv D A (fun u : Mo => wO qa u ++ wH cyI qb vh) o) args s 0 0 A) (F0 m 0 ls []) := by
    intro H locs hP hD hS
    have h := hf
    unfold f_X1_weigh at h
    refine lv_aload_n hx hb dX1_weigh_0 rfl (lv_at hl 0 rfl) ?_
    refine lv_iload_n hx hb dX1_weigh_1 rfl (lv_at hl 2 rfl) ?_
    refine va_put (D := D) (ci := 1) (v := .int a2) (ty := .int) (C := RX1) (T := TX1) (N := 5) hx hb hts in_X1_weigh_X1 tyX1 tyX1_ok nmX1 hown hK.1 hP hD hS 0 rfl rfl 0 (by decide) (hts _ kw_X1_weigh_1) (fun _ h9 => h9) rfl (tyX1_ok 0 (by decide)) rfl rfl (Nat.le_of_ble_eq_true rfl) dX1_weigh_2 (fun H locs hP hD hS => ?_)
    have hP : va_P D vwCl (wO qa (vof.1, va_up vof.2 0 a2) ++ wH cyI qb vh) H := hP
    have hD : va_D A (wO qa (vof.1, va_up vof.2 0 a2) ++ wH cyI qb vh) := hD
    refine lv_aload_n hx hb dX1_weigh_5 rfl (lv_at hl 0 rfl) ?_
    refine lv_iconst (v := (0 : Int32)) hx hb dX1_weigh_6 (by decide) ?_
    refine va_put (D := D) (ci := 1) (v := .int (0 : Int32)) (ty := .int) (C := RX1) (T := TX1) (N := 5) hx hb hts in_X1_weigh_X1 tyX1 tyX1_ok nmX1 hown hK.1 hP hD hS 0 rfl rfl 1 (by decide) (hts _ kw_X1_weigh_2) (fun _ h9 => h9) rfl (tyX1_ok 1 (by decide)) rfl rfl (Nat.le_of_ble_eq_true rfl) dX1_weigh_7 (fun H locs hP hD hS => ?_)
    have hP : va_P D vwCl (wO qa (vof.1, va_up (va_up vof.2 0 a2) 1 (0 : Int32)) ++ wH cyI qb vh) H := hP
    have hD : va_D A (wO qa (vof.1, va_up (va_up vof.2 0 a2) 1 (0 : Int32)) ++ wH cyI qb vh) := hD
    refine lv_aload_n hx hb dX1_weigh_10 rfl (lv_at hl 0 rfl) ?_
    refine lv_iconst (v := (0 : Int32)) hx hb dX1_weigh_11 (by decide) ?_
    refine va_put (D := D) (ci := 1) (v := .int (0 : Int32)) (ty := .int) (C := RX1) (T := TX1) (N := 5) hx hb hts in_X1_weigh_X1 tyX1 tyX1_ok nmX1 hown hK.1 hP hD hS 0 rfl rfl 2 (by decide) (hts _ kw_X1_weigh_3) (fun _ h9 => h9) rfl (tyX1_ok 2 (by decide)) rfl rfl (Nat.le_of_ble_eq_true rfl) dX1_weigh_12 (fun H locs hP hD hS => ?_)
    have hP : va_P D vwCl (wO qa (vof.1, va_up (va_up (va_up vof.2 0 a2) 1 (0 : Int32)) 2 (0 : Int32)) ++ wH cyI qb vh) H := hP
    have hD : va_D A (wO qa (vof.1, va_up (va_up (va_up vof.2 0 a2) 1 (0 : Int32)) 2 (0 : Int32)) ++ wH cyI qb vh) := hD
    refine lv_aload_n hx hb dX1_weigh_15 rfl (lv_at hl 0 rfl) ?_
    refine lv_iconst (v := (0 : Int32)) hx hb dX1_weigh_16 (by decide) ?_
    refine va_put (D := D) (ci := 1) (v := .int (0 : Int32)) (ty := .int) (C := RX1) (T := TX1) (N := 5) hx hb hts in_X1_weigh_X1 tyX1 tyX1_ok nmX1 hown hK.1 hP hD hS 0 rfl rfl 3 (by decide) (hts _ kw_X1_weigh_4) (fun _ h9 => h9) rfl (tyX1_ok 3 (by decide)) rfl rfl (Nat.le_of_ble_eq_true rfl) dX1_weigh_17 (fun H locs hP hD hS => ?_)
    have hP : va_P D vwCl (wO qa (vof.1, va_up (va_up (va_up (va_up vof.2 0 a2) 1 (0 : Int32)) 2 (0 : Int32)) 3 (0 : Int32)) ++ wH cyI qb vh) H := hP
    have hD : va_D A (wO qa (vof.1, va_up (va_up (va_up (va_up vof.2 0 a2) 1 (0 : Int32)) 2 (0 : Int32)) 3 (0 : Int32)) ++ wH cyI qb vh) := hD
    refine lv_aload_n hx hb dX1_weigh_20 rfl (lv_at hl 0 rfl) ?_
    refine lv_iconst (v := (0 : Int32)) hx hb dX1_weigh_21 (by decide) ?_
    refine va_put (D := D) (ci := 1) (v := .int (0 : Int32)) (ty := .int) (C := RX1) (T := TX1) (N := 5) hx hb hts in_X1_weigh_X1 tyX1 tyX1_ok nmX1 hown hK.1 hP hD hS 0 rfl rfl 4 (by decide) (hts _ kw_X1_weigh_5) (fun _ h9 => h9) rfl (tyX1_ok 4 (by decide)) rfl rfl (Nat.le_of_ble_eq_true rfl) dX1_weigh_22 (fun H locs hP hD hS => ?_)
    have hP : va_P D vwCl (wO qa (vof.1, va_up (va_up (va_up (va_up (va_up vof.2 0 a2) 1 (0 : Int32)) 2 (0 : Int32)) 3 (0 : Int32)) 4 (0 : Int32)) ++ wH cyI qb vh) H := hP
    have hD : va_D A (wO qa (vof.1, va_up (va_up (va_up (va_up (va_up vof.2 0 a2) 1 (0 : Int32)) 2 (0 : Int32)) 3 (0 : Int32)) 4 (0 : Int32)) ++ wH cyI qb vh) := hD
    refine lv_aload_n hx hb dX1_weigh_25 rfl (lv_at hl 1 rfl) ?_
    refine va_get (D := D) (ci := 0) (v := .int (vh.2 1)) (C := RX0) (T := TX0) (N := 12) hx hb hts in_X1_weigh_X0 hown hK.1 hP 1 rfl rfl 9 (by decide) (hts _ kw_X1_weigh_6) (fun _ h9 => h9) rfl dX1_weigh_26 ?_
    obtain ⟨z1, hz1, h⟩ := jb h
    refine jkl (jrN (As := [.int (vh.2 1)]) (rest := []) ⟨hx, hb, hml, hown, hts⟩ (c_X7_tenTo l D cyI cyZ cyT   N (vh.2 1) z1 hz1) ⟨va_cnB 1 hts gX1_weigh_X7_tenTo_n32 rfl rfl rfl hK.2.2.2.1 (hts _ kw_X1_weigh_10) (by decide +kernel) ⟨Nat.le_of_ble_eq_true rfl, Nat.le_of_ble_eq_true rfl⟩, hts _ kw_X1_weigh_9, trivial⟩ hK jP0 rfl rfl hl.1 (Nat.le_of_ble_eq_true rfl) dX1_weigh_29 ⟨Nat.le_of_ble_eq_true rfl, Nat.le_of_ble_eq_true rfl⟩) ?_
    clear hz1
    refine lv_lstore (lv' := [(4, .long z1), (0, .ref (qa 0)), (1, .ref (qb 0)), (2, .int a2), (3, .int a3)]) hx hb dX1_weigh_32 hl (by decide) rfl (fun ls hl => ?_)
    refine lv_iload_n hx hb dX1_weigh_34 rfl (lv_at hl 4 rfl) ?_
    refine lv_i2l (v := a3.toInt64) hx hb dX1_weigh_35 rfl ?_
    refine lv_lload hx hb dX1_weigh_36 (lv_at hl 0 rfl) ?_
    refine lv_lmul hx hb dX1_weigh_38 ?_
    refine lv_lstore (lv' := [(6, .long (a3.toInt64 * z1)), (4, .long z1), (0, .ref (qa 0)), (1, .ref (qb 0)), (2, .int a2), (3, .int a3)]) hx hb dX1_weigh_39 hl (by decide) rfl (fun ls hl => ?_)
    refine lv_iload_n hx hb dX1_weigh_41 rfl (lv_at hl 5 rfl) ?_
    refine lv_aload_n hx hb dX1_weigh_42 rfl (lv_at hl 3 rfl) ?_
    refine va_get (D := D) (ci := 0) (v := .int (vh.2 3)) (C := RX0) (T := TX0) (N := 12) hx hb hts in_X1_weigh_X0 hown hK.1 hP 1 rfl rfl 11 (by decide) (hts _ kw_X1_weigh_7) (fun _ h9 => h9) rfl dX1_weigh_43 ?_
    refine lv_iadd hx hb dX1_weigh_46 ?_
    refine lv_i2l (v := (a3 + (vh.2 3)).toInt64) hx hb dX1_weigh_47 rfl ?_
    refine lv_lload hx hb dX1_weigh_48 (lv_at hl 1 rfl) ?_
    refine lv_lmul hx hb dX1_weigh_50 ?_
    refine lv_lstore (lv' := [(8, .long (((a3 + (vh.2 3)).toInt64) * z1)), (6, .long (a3.toInt64 * z1)), (4, .long z1), (0, .ref (qa 0)), (1, .ref (qb 0)), (2, .int a2), (3, .int a3)]) hx hb dX1_weigh_51 hl (by decide) rfl (fun ls hl => ?_)
    refine lv_iconst (v := (0 : Int32)) hx hb dX1_weigh_53 (by decide) ?_
    refine lv_istore (lv' := [(10, .int (0 : Int32)), (8, .long (((a3 + (vh.2 3)).toInt64) * z1)), (6, .long (a3.toInt64 * z1)), (4, .long z1), (0, .ref (qa 0)), (1, .ref (qb 0)), (2, .int a2), (3, .int a3)]) hx hb dX1_weigh_54 hl (by decide) rfl (fun ls hl => ?_)
    obtain ⟨r2, hz2, h2_⟩ := jb h
    have hex2 : ∀ e2 : Mo, r2 = e2 → ∀ (H : Heap) (locs : List Loc), va_P D vwCl (wO qa e2 ++ wH cyI qb vh) H → va_D A (wO qa e2 ++ wH cyI qb vh) → va_S A s.heap H locs → ∀ (ls : Array Slot), lv_has ls 13 [] → W p l e rm_X1_weigh s m args below meth c H locs 0 0 (MQ below (jQv D A (fun u : Mo => wO qa u ++ wH cyI qb vh) o) args s 0 0 A) (F0 m 179 ls []) := by
      intro e2 he H locs hP hD hS ls hl
      rw [he] at h2_
      have h := h2_
      clear hz2
      exact W.vret hx hb hr (fun t ht _ => ⟨⟨_, rfl, Option.some.inj h, by rw [ht]; exact hP, hD⟩, hS.F ht⟩) hS.2.2 dX1_weigh_179 hlocks
    have hlp2 : ∀ (nn : Nat) (z2 : (Int32 × Mo)), jw (X1_weigh_s56 N a3 vh z1) nn z2 = some r2 → ∀ (H : Heap) (locs : List Loc), va_P D vwCl (wO qa z2.2 ++ wH cyI qb vh) H → va_D A (wO qa z2.2 ++ wH cyI qb vh) → va_S A s.heap H locs → ∀ (ls : Array Slot), lv_has ls 13 [(0, .ref (qa 0)), (1, .ref (qb 0)), (6, .long (a3.toInt64 * z1)), (8, .long (((a3 + (vh.2 3)).toInt64) * z1)), (10, .int z2.1)] → W p l e rm_X1_weigh s m args below meth c H locs 0 0 (MQ below (jQv D A (fun u : Mo => wO qa u ++ wH cyI qb vh) o) args s 0 0 A) (F0 m 56 ls []) := by
      refine jw_P (r := r2) (P := fun z2 : (Int32 × Mo) => ∀ (H : Heap) (locs : List Loc), va_P D vwCl (wO qa z2.2 ++ wH cyI qb vh) H → va_D A (wO qa z2.2 ++ wH cyI qb vh) → va_S A s.heap H locs → ∀ (ls : Array Slot), lv_has ls 13 [(0, .ref (qa 0)), (1, .ref (qb 0)), (6, .long (a3.toInt64 * z1)), (8, .long (((a3 + (vh.2 3)).toInt64) * z1)), (10, .int z2.1)] → W p l e rm_X1_weigh s m args below meth c H locs 0 0 (MQ below (jQv D A (fun u : Mo => wO qa u ++ wH cyI qb vh) o) args s 0 0 A) (F0 m 56 ls [])) ?_
      intro z2 x2 h hin hout H locs hP hD hS ls hl
      unfold X1_weigh_s56 at h
      refine lv_iload hx hb dX1_weigh_56 (lv_at hl 4 rfl) ?_
      refine lv_aload_n hx hb dX1_weigh_58 rfl (lv_at hl 1 rfl) ?_
      refine va_get (D := D) (ci := 0) (v := .int (vh.2 0)) (C := RX0) (T := TX0) (N := 12) hx hb hts in_X1_weigh_X0 hown hK.1 hP 1 rfl rfl 8 (by decide) (hts _ kw_X1_weigh_8) (fun _ h9 => h9) rfl dX1_weigh_59 ?_
      refine lv_icmp_ge (tgt := 179) hx hb dX1_weigh_62 (by decide) (fun c3 => ?_) (fun c3 => ?_)
      · have h := jt c3 h
        exact hex2 _ (hout _ (Option.some.inj h).symm).symm H locs hP hD hS ls (lv_sub hl [] rfl)
      · have h := jf c3 h
        refine lv_aload_n hx hb dX1_weigh_65 rfl (lv_at hl 1 rfl) ?_
        refine lv_iload hx hb dX1_weigh_66 (lv_at hl 4 rfl) ?_
        obtain ⟨z4, hz4, h⟩ := jb h
        refine jkl (jrV (As := [.int z2.1]) (rest := []) ⟨hx, hb, hml, hown, hts⟩ (c_X0_dreadAbove l D cyI cyZ cyT qb  N z2.1 vh z4 hz4) (cwV 1 hts gX1_weigh_X0_dreadAbove rfl rfl rfl (by decide +kernel) ⟨Nat.le_of_ble_eq_true rfl, Nat.le_of_ble_eq_true rfl⟩) hK (hP.sub (ws' := wH cyI qb vh) [1, 2, 3, 4, 5, 6, 7, 8, 9] rfl) rfl 0 0 rfl rfl rfl hl.1 (Nat.le_of_ble_eq_true rfl) dX1_weigh_68 ⟨Nat.le_of_ble_eq_true rfl, Nat.le_of_ble_eq_true rfl⟩) ?_
        clear hz4
        refine lv_lstore (lv' := [(11, .long z4), (0, .ref (qa 0)), (1, .ref (qb 0)), (6, .long (a3.toInt64 * z1)), (8, .long (((a3 + (vh.2 3)).toInt64) * z1)), (10, .int z2.1)]) hx hb dX1_weigh_71 hl (by decide) rfl (fun ls hl => ?_)
        refine lv_aload_n hx hb dX1_weigh_73 rfl (lv_at hl 1 rfl) ?_
        refine lv_dup hx hb dX1_weigh_74 rfl ?_
        refine va_get (D := D) (ci := 1) (v := .int (z2.2.2 1)) (C := RX1) (T := TX1) (N := 5) hx hb hts in_X1_weigh_X1 hown hK.1 hP 0 rfl rfl 1 (by decide) (hts _ kw_X1_weigh_2) (fun _ h9 => h9) rfl dX1_weigh_75 ?_
        refine lv_lload hx hb dX1_weigh_78 (lv_at hl 0 rfl) ?_
        refine lv_lload hx hb dX1_weigh_80 (lv_at hl 3 rfl) ?_
        refine W.lcmp hx hb dX1_weigh_82 ?_
        obtain ⟨z5, hz5, h⟩ := jb h
        have hk5 : ∀ (H : Heap) (locs : List Loc), va_P D vwCl (wO qa z2.2 ++ wH cyI qb vh) H → va_D A (wO qa z2.2 ++ wH cyI qb vh) → va_S A s.heap H locs → ∀ (ls : Array Slot), lv_has ls 13 [(0, .ref (qa 0)), (1, .ref (qb 0)), (6, .long (a3.toInt64 * z1)), (8, .long (((a3 + (vh.2 3)).toInt64) * z1)), (10, .int z2.1), (11, .long z4)] → W p l e rm_X1_weigh s m args below meth c H locs 0 0 (MQ below (jQv D A (fun u : Mo => wO qa u ++ wH cyI qb vh) o) args s 0 0 A) (F0 m 94 ls [.int z5, .int (z2.2.2 1), .ref (qa 0)]) := by
          intro H locs hP hD hS ls hl
          refine lv_ior hx hb dX1_weigh_94 ?_
          refine va_put (D := D) (ci := 1) (v := .int ((z2.2.2 1) ||| z5)) (ty := .int) (C := RX1) (T := TX1) (N := 5) hx hb hts in_X1_weigh_X1 tyX1 tyX1_ok nmX1 hown hK.1 hP hD hS 0 rfl rfl 1 (by decide) (hts _ kw_X1_weigh_2) (fun _ h9 => h9) rfl (tyX1_ok 1 (by decide)) rfl rfl (Nat.le_of_ble_eq_true rfl) dX1_weigh_95 (fun H locs hP hD hS => ?_)
          have hP : va_P D vwCl (wO qa (z2.2.1, va_up z2.2.2 1 ((z2.2.2 1) ||| z5)) ++ wH cyI qb vh) H := hP
          have hD : va_D A (wO qa (z2.2.1, va_up z2.2.2 1 ((z2.2.2 1) ||| z5)) ++ wH cyI qb vh) := hD
          refine lv_aload_n hx hb dX1_weigh_98 rfl (lv_at hl 0 rfl) ?_
          refine lv_dup hx hb dX1_weigh_99 rfl ?_
          refine va_get (D := D) (ci := 1) (v := .int (z2.2.2 2)) (C := RX1) (T := TX1) (N := 5) hx hb hts in_X1_weigh_X1 hown hK.1 hP 0 rfl rfl 2 (by decide) (hts _ kw_X1_weigh_3) (fun _ h9 => h9) rfl dX1_weigh_100 ?_
          refine lv_lload hx hb dX1_weigh_103 (lv_at hl 5 rfl) ?_
          refine lv_lload hx hb dX1_weigh_105 (lv_at hl 2 rfl) ?_
          refine W.lcmp hx hb dX1_weigh_107 ?_
          obtain ⟨z7, hz7, h⟩ := jb h
          have hk7 : ∀ (H : Heap) (locs : List Loc), va_P D vwCl (wO qa (z2.2.1, va_up z2.2.2 1 ((z2.2.2 1) ||| z5)) ++ wH cyI qb vh) H → va_D A (wO qa (z2.2.1, va_up z2.2.2 1 ((z2.2.2 1) ||| z5)) ++ wH cyI qb vh) → va_S A s.heap H locs → ∀ (ls : Array Slot), lv_has ls 13 [(0, .ref (qa 0)), (1, .ref (qb 0)), (6, .long (a3.toInt64 * z1)), (8, .long (((a3 + (vh.2 3)).toInt64) * z1)), (10, .int z2.1), (11, .long z4)] → W p l e rm_X1_weigh s m args below meth c H locs 0 0 (MQ below (jQv D A (fun u : Mo => wO qa u ++ wH cyI qb vh) o) args s 0 0 A) (F0 m 119 ls [.int z7, .int (z2.2.2 2), .ref (qa 0)]) := by
            intro H locs hP hD hS ls hl
            refine lv_ior hx hb dX1_weigh_119 ?_
            refine va_put (D := D) (ci := 1) (v := .int ((z2.2.2 2) ||| z7)) (ty := .int) (C := RX1) (T := TX1) (N := 5) hx hb hts in_X1_weigh_X1 tyX1 tyX1_ok nmX1 hown hK.1 hP hD hS 0 rfl rfl 2 (by decide) (hts _ kw_X1_weigh_3) (fun _ h9 => h9) rfl (tyX1_ok 2 (by decide)) rfl rfl (Nat.le_of_ble_eq_true rfl) dX1_weigh_120 (fun H locs hP hD hS => ?_)
            have hP : va_P D vwCl (wO qa (z2.2.1, va_up (va_up z2.2.2 1 ((z2.2.2 1) ||| z5)) 2 ((z2.2.2 2) ||| z7)) ++ wH cyI qb vh) H := hP
            have hD : va_D A (wO qa (z2.2.1, va_up (va_up z2.2.2 1 ((z2.2.2 1) ||| z5)) 2 ((z2.2.2 2) ||| z7)) ++ wH cyI qb vh) := hD
            refine lv_aload_n hx hb dX1_weigh_123 rfl (lv_at hl 0 rfl) ?_
            refine lv_dup hx hb dX1_weigh_124 rfl ?_
            refine va_get (D := D) (ci := 1) (v := .int (z2.2.2 3)) (C := RX1) (T := TX1) (N := 5) hx hb hts in_X1_weigh_X1 hown hK.1 hP 0 rfl rfl 3 (by decide) (hts _ kw_X1_weigh_4) (fun _ h9 => h9) rfl dX1_weigh_125 ?_
            refine lv_lload hx hb dX1_weigh_128 (lv_at hl 5 rfl) ?_
            refine lv_lload hx hb dX1_weigh_130 (lv_at hl 3 rfl) ?_
            refine W.lcmp hx hb dX1_weigh_132 ?_
            obtain ⟨z9, hz9, h⟩ := jb h
            have hk9 : ∀ (H : Heap) (locs : List Loc), va_P D vwCl (wO qa (z2.2.1, va_up (va_up z2.2.2 1 ((z2.2.2 1) ||| z5)) 2 ((z2.2.2 2) ||| z7)) ++ wH cyI qb vh) H → va_D A (wO qa (z2.2.1, va_up (va_up z2.2.2 1 ((z2.2.2 1) ||| z5)) 2 ((z2.2.2 2) ||| z7)) ++ wH cyI qb vh) → va_S A s.heap H locs → ∀ (ls : Array Slot), lv_has ls 13 [(0, .ref (qa 0)), (1, .ref (qb 0)), (6, .long (a3.toInt64 * z1)), (8, .long (((a3 + (vh.2 3)).toInt64) * z1)), (10, .int z2.1), (11, .long z4)] → W p l e rm_X1_weigh s m args below meth c H locs 0 0 (MQ below (jQv D A (fun u : Mo => wO qa u ++ wH cyI qb vh) o) args s 0 0 A) (F0 m 144 ls [.int z9, .int (z2.2.2 3), .ref (qa 0)]) := by
              intro H locs hP hD hS ls hl
              refine lv_ior hx hb dX1_weigh_144 ?_
              refine va_put (D := D) (ci := 1) (v := .int ((z2.2.2 3) ||| z9)) (ty := .int) (C := RX1) (T := TX1) (N := 5) hx hb hts in_X1_weigh_X1 tyX1 tyX1_ok nmX1 hown hK.1 hP hD hS 0 rfl rfl 3 (by decide) (hts _ kw_X1_weigh_4) (fun _ h9 => h9) rfl (tyX1_ok 3 (by decide)) rfl rfl (Nat.le_of_ble_eq_true rfl) dX1_weigh_145 (fun H locs hP hD hS => ?_)
              have hP : va_P D vwCl (wO qa (z2.2.1, va_up (va_up (va_up z2.2.2 1 ((z2.2.2 1) ||| z5)) 2 ((z2.2.2 2) ||| z7)) 3 ((z2.2.2 3) ||| z9)) ++ wH cyI qb vh) H := hP
              have hD : va_D A (wO qa (z2.2.1, va_up (va_up (va_up z2.2.2 1 ((z2.2.2 1) ||| z5)) 2 ((z2.2.2 2) ||| z7)) 3 ((z2.2.2 3) ||| z9)) ++ wH cyI qb vh) := hD
              refine lv_aload_n hx hb dX1_weigh_148 rfl (lv_at hl 0 rfl) ?_
              refine lv_dup hx hb dX1_weigh_149 rfl ?_
              refine va_get (D := D) (ci := 1) (v := .int (z2.2.2 4)) (C := RX1) (T := TX1) (N := 5) hx hb hts in_X1_weigh_X1 hown hK.1 hP 0 rfl rfl 4 (by decide) (hts _ kw_X1_weigh_5) (fun _ h9 => h9) rfl dX1_weigh_150 ?_
              refine lv_lload hx hb dX1_weigh_153 (lv_at hl 5 rfl) ?_
              refine lv_lload hx hb dX1_weigh_155 (lv_at hl 3 rfl) ?_
              refine W.lcmp hx hb dX1_weigh_157 ?_
              obtain ⟨z11, hz11, h⟩ := jb h
              have hk11 : ∀ (H : Heap) (locs : List Loc), va_P D vwCl (wO qa (z2.2.1, va_up (va_up (va_up z2.2.2 1 ((z2.2.2 1) ||| z5)) 2 ((z2.2.2 2) ||| z7)) 3 ((z2.2.2 3) ||| z9)) ++ wH cyI qb vh) H → va_D A (wO qa (z2.2.1, va_up (va_up (va_up z2.2.2 1 ((z2.2.2 1) ||| z5)) 2 ((z2.2.2 2) ||| z7)) 3 ((z2.2.2 3) ||| z9)) ++ wH cyI qb vh) → va_S A s.heap H locs → ∀ (ls : Array Slot), lv_has ls 13 [(0, .ref (qa 0)), (1, .ref (qb 0)), (6, .long (a3.toInt64 * z1)), (8, .long (((a3 + (vh.2 3)).toInt64) * z1)), (10, .int z2.1)] → W p l e rm_X1_weigh s m args below meth c H locs 0 0 (MQ below (jQv D A (fun u : Mo => wO qa u ++ wH cyI qb vh) o) args s 0 0 A) (F0 m 169 ls [.int z11, .int (z2.2.2 4), .ref (qa 0)]) := by
                intro H locs hP hD hS ls hl
                refine lv_ior hx hb dX1_weigh_169 ?_
                refine va_put (D := D) (ci := 1) (v := .int ((z2.2.2 4) ||| z11)) (ty := .int) (C := RX1) (T := TX1) (N := 5) hx hb hts in_X1_weigh_X1 tyX1 tyX1_ok nmX1 hown hK.1 hP hD hS 0 rfl rfl 4 (by decide) (hts _ kw_X1_weigh_5) (fun _ h9 => h9) rfl (tyX1_ok 4 (by decide)) rfl rfl (Nat.le_of_ble_eq_true rfl) dX1_weigh_170 (fun H locs hP hD hS => ?_)
                have hP : va_P D vwCl (wO qa (z2.2.1, va_up (va_up (va_up (va_up z2.2.2 1 ((z2.2.2 1) ||| z5)) 2 ((z2.2.2 2) ||| z7)) 3 ((z2.2.2 3) ||| z9)) 4 ((z2.2.2 4) ||| z11)) ++ wH cyI qb vh) H := hP
                have hD : va_D A (wO qa (z2.2.1, va_up (va_up (va_up (va_up z2.2.2 1 ((z2.2.2 1) ||| z5)) 2 ((z2.2.2 2) ||| z7)) 3 ((z2.2.2 3) ||| z9)) 4 ((z2.2.2 4) ||| z11)) ++ wH cyI qb vh) := hD
                refine lv_iinc (v := z2.1 + (1 : Int32)) (lv' := [(10, .int (z2.1 + (1 : Int32))), (0, .ref (qa 0)), (1, .ref (qb 0)), (6, .long (a3.toInt64 * z1)), (8, .long (((a3 + (vh.2 3)).toInt64) * z1))]) hx hb dX1_weigh_173 hl (k := 4) rfl rfl (by decide) rfl (fun ls hl => ?_)
                refine lv_goto (tgt := 56) hx hb dX1_weigh_176 (by decide) ?_
                exact hin _ (Option.some.inj h).symm H locs hP hD hS ls (lv_sub hl [1, 2, 3, 4, 0] rfl)
              clear h
              have h := hz11
              clear hz11
              refine lv_if_ge (tgt := 168) hx hb dX1_weigh_158 (by decide) (fun c12 => ?_) (fun c12 => ?_)
              · have h := jt ((lg_cmp_ge _ _).mp c12) h
                refine lv_iconst (v := (0 : Int32)) hx hb dX1_weigh_168 (by decide) ?_
                obtain rfl := Option.some.inj h
                exact hk11 H locs hP hD hS ls (lv_sub hl [0, 1, 2, 3, 4] rfl)
              · have h := jf (fun e => c12 ((lg_cmp_ge _ _).mpr e)) h
                refine lv_iconst (v := (1 : Int32)) hx hb dX1_weigh_161 (by decide) ?_
                refine lv_iload hx hb dX1_weigh_162 (lv_at hl 4 rfl) ?_
                refine lv_ishl hx hb dX1_weigh_164 ?_
                refine lv_goto (tgt := 169) hx hb dX1_weigh_165 (by decide) ?_
                obtain rfl := Option.some.inj h
                exact hk11 H locs hP hD hS ls (lv_sub hl [0, 1, 2, 3, 4] rfl)
            clear h
            have h := hz9
            clear hz9
            refine lv_if_gt (tgt := 143) hx hb dX1_weigh_133 (by decide) (fun c10 => ?_) (fun c10 => ?_)
            · have h := jt ((lg_cmp_gt _ _).mp c10) h
              refine lv_iconst (v := (0 : Int32)) hx hb dX1_weigh_143 (by decide) ?_
              obtain rfl := Option.some.inj h
              exact hk9 H locs hP hD hS ls (lv_sub hl [0, 1, 2, 3, 4, 5] rfl)
            · have h := jf (fun e => c10 ((lg_cmp_gt _ _).mpr e)) h
              refine lv_iconst (v := (1 : Int32)) hx hb dX1_weigh_136 (by decide) ?_
              refine lv_iload hx hb dX1_weigh_137 (lv_at hl 4 rfl) ?_
              refine lv_ishl hx hb dX1_weigh_139 ?_
              refine lv_goto (tgt := 144) hx hb dX1_weigh_140 (by decide) ?_
              obtain rfl := Option.some.inj h
              exact hk9 H locs hP hD hS ls (lv_sub hl [0, 1, 2, 3, 4, 5] rfl)
          clear h
          have h := hz7
          clear hz7
          refine lv_if_lt (tgt := 118) hx hb dX1_weigh_108 (by decide) (fun c8 => ?_) (fun c8 => ?_)
          · have h := jt ((lg_cmp_lt _ _).mp c8) h
            refine lv_iconst (v := (0 : Int32)) hx hb dX1_weigh_118 (by decide) ?_
            obtain rfl := Option.some.inj h
            exact hk7 H locs hP hD hS ls (lv_sub hl [0, 1, 2, 3, 4, 5] rfl)
          · have h := jf (fun e => c8 ((lg_cmp_lt _ _).mpr e)) h
            refine lv_iconst (v := (1 : Int32)) hx hb dX1_weigh_111 (by decide) ?_
            refine lv_iload hx hb dX1_weigh_112 (lv_at hl 4 rfl) ?_
            refine lv_ishl hx hb dX1_weigh_114 ?_
            refine lv_goto (tgt := 119) hx hb dX1_weigh_115 (by decide) ?_
            obtain rfl := Option.some.inj h
            exact hk7 H locs hP hD hS ls (lv_sub hl [0, 1, 2, 3, 4, 5] rfl)
        clear h
        have h := hz5
        clear hz5
        refine lv_if_gt (tgt := 93) hx hb dX1_weigh_83 (by decide) (fun c6 => ?_) (fun c6 => ?_)
        · have h := jt ((lg_cmp_gt _ _).mp c6) h
          refine lv_iconst (v := (0 : Int32)) hx hb dX1_weigh_93 (by decide) ?_
          obtain rfl := Option.some.inj h
          exact hk5 H locs hP hD hS ls (lv_sub hl [1, 2, 3, 4, 5, 0] rfl)
        · have h := jf (fun e => c6 ((lg_cmp_gt _ _).mpr e)) h
          refine lv_iconst (v := (1 : Int32)) hx hb dX1_weigh_86 (by decide) ?_
          refine lv_iload hx hb dX1_weigh_87 (lv_at hl 5 rfl) ?_
          refine lv_ishl hx hb dX1_weigh_89 ?_
          refine lv_goto (tgt := 94) hx hb dX1_weigh_90 (by decide) ?_
          obtain rfl := Option.some.inj h
          exact hk5 H locs hP hD hS ls (lv_sub hl [1, 2, 3, 4, 5, 0] rfl)
    exact hlp2 _ _ hz2 H locs hP hD hS ls (lv_sub hl [4, 5, 2, 1, 0] rfl)
  exact key s.heap [] hP hD hS
theorem kw_X2_takeIfBetter_1 : (.fieldLink RX2 26 "BellTheCat$Search" "bestAbove" "J" : Cond) ∈ wsX2_takeIfBetter := List.mem_of_getElem? (i := 1) rfl
theorem kw_X2_takeIfBetter_2 : (.fieldLink RX2 9 "BellTheCat$Search" "row" "[I" : Cond) ∈ wsX2_takeIfBetter := List.mem_of_getElem? (i := 2) rfl
theorem kw_X2_takeIfBetter_3 : (.fieldLink RX2 15 "BellTheCat$Search" "bestRow" "[I" : Cond) ∈ wsX2_takeIfBetter := List.mem_of_getElem? (i := 3) rfl
theorem kw_X2_takeIfBetter_4 : (.methodLink RX2 69 arraycopyName : Cond) ∈ wsX2_takeIfBetter := List.mem_of_getElem? (i := 4) rfl
theorem kw_X2_takeIfBetter_5 : (.native arraycopyName : Cond) ∈ wsX2_takeIfBetter := List.mem_of_getElem? (i := 5) rfl
theorem kw_X2_takeIfBetter_6 : (.static arraycopyName : Cond) ∈ wsX2_takeIfBetter := List.mem_of_getElem? (i := 6) rfl
theorem kw_X2_takeIfBetter_7 : (.initialized "java/lang/System" : Cond) ∈ wsX2_takeIfBetter := List.mem_of_getElem? (i := 7) rfl
theorem in_X2_takeIfBetter_X2 : ∀ w ∈ wsX20, w ∈ wsX2_takeIfBetter := fun w h => List.mem_cons_of_mem _ (List.mem_append_right _ h)
abbrev rm_X2_takeIfBetter : Room := { frames := 1, cells := 0, slots := 0, locals := 64 }
set_option maxHeartbeats 4000000 in
set_option maxRecDepth 100000 in
theorem c_X2_takeIfBetter (l : Launch) (D : va_G) (cyI cyZ cyT : ClassId) (qa : Nat → Nat) (sz : Nat) (a1 : Int64) (vsr : Mo) (vbL : Int64) (o : (Mo × Int64)) (hf : f_X2_takeIfBetter a1 vsr vbL = some o) : Met l yX2_takeIfBetter wsX2_takeIfBetter rm_X2_takeIfBetter (va_Pc [.ref (qa 0), .long a1] (jM D cyI cyZ cyT (wS cyI qa vsr vbL) sz)) (jQv D (va_A (wS cyI qa vsr vbL) sz) (fun u : (Mo × Int64) => wS cyI qa u.1 u.2) o) 0 0 (va_A (wS cyI qa vsr vbL) sz) := by
  refine Met.ofW (cc := cX2_takeIfBetter) (maxL := 3) (ret := none) (by decide) rfl ?_
  intro p e s m args below meth c s₁ B hml hv
  obtain ⟨rfl, hsz, hP, hK, hD0⟩ := hv
  have hx := B.exec
  have hb := B.bytes
  have hr := B.returns
  have hts := atoms_spec (ws := wsX2_takeIfBetter) B.pre
  have hown : s.vm.findClass RX2 = some m.cls := findClass_of_methodNamed B.named
  have hlocks := B.notSynchronized
  subst hsz
  have hD := hD0.self (sz := s.heap.size)
  generalize hAe : va_A (wS cyI qa vsr vbL) s.heap.size = A at hD ⊢
  have hA : ∀ q : Nat, s.heap.size ≤ q → A q := fun q h => by rw [← hAe]; exact Or.inr h
  have hS : va_S A s.heap s.heap [] := va_S.rf
  have hl := lv_entry ([.ref (qa 0), .long a1]) (n := 3) (Nat.le_of_ble_eq_true rfl)
  rw [lg_entry_eq]
  generalize (lg_sl ([.ref (qa 0), .long a1]) ++ List.replicate (3 - (lg_sl ([.ref (qa 0), .long a1])).length) Slot.unset).toArray = ls at hl ⊢
  have hl : lv_has ls 3 [(0, .ref (qa 0)), (1, .long a1)] := hl
  clear B
  generalize ([.ref (qa 0), .long a1] : List Value).toArray = args at hts ⊢
  have key : ∀ (H : Heap) (locs : List Loc), va_P D vwCl (wS cyI qa vsr vbL) H → va_D A (wS cyI qa vsr vbL) → va_S A s.heap H locs → W p l e rm_X2_takeIfBetter s m args below meth c H locs 0 0 (MQ below (jQv D A (fun u : (Mo × Int64) => wS cyI qa u.1 u.2) o) args s 0 0 A) (F0 m 0 ls []) := by
    intro H locs hP hD hS
    have h := hf
    unfold f_X2_takeIfBetter at h
    refine lv_lload_n hx hb dX2_takeIfBetter_0 rfl (lv_at hl 1 rfl) ?_
    refine lv_aload_n hx hb dX2_takeIfBetter_1 rfl (lv_at hl 0 rfl) ?_
    refine va_get (D := D) (ci := 2) (v := .long vbL) (C := RX2) (T := TX2) (N := 4) hx hb hts in_X2_takeIfBetter_X2 hown hK.1 hP 0 rfl rfl 2 (by decide) (hts _ kw_X2_takeIfBetter_1) (fun _ h9 => h9) rfl dX2_takeIfBetter_2 ?_
    refine W.lcmp hx hb dX2_takeIfBetter_5 ?_
    refine lv_if_le (tgt := 28) hx hb dX2_takeIfBetter_6 (by decide) (fun c1 => ?_) (fun c1 => ?_)
    · have h := jt ((lg_cmp_le _ _).mp c1) h
      exact W.vret hx hb hr (fun t ht _ => ⟨⟨_, rfl, Option.some.inj h, by rw [ht]; exact hP, hD⟩, hS.F ht⟩) hS.2.2 dX2_takeIfBetter_28 hlocks
    · have h := jf (fun e => c1 ((lg_cmp_le _ _).mpr e)) h
      refine lv_aload_n hx hb dX2_takeIfBetter_9 rfl (lv_at hl 0 rfl) ?_
      refine lv_lload_n hx hb dX2_takeIfBetter_10 rfl (lv_at hl 1 rfl) ?_
      refine va_put (D := D) (ci := 2) (v := .long a1) (ty := .long) (C := RX2) (T := TX2) (N := 4) hx hb hts in_X2_takeIfBetter_X2 tyX2 tyX2_ok nmX2 hown hK.1 hP hD hS 0 rfl rfl 2 (by decide) (hts _ kw_X2_takeIfBetter_1) (fun _ h9 => h9) rfl (tyX2_ok 2 (by decide)) rfl rfl (Nat.le_of_ble_eq_true rfl) dX2_takeIfBetter_11 (fun H locs hP hD hS => ?_)
      have hP : va_P D vwCl (wS cyI qa vsr a1) H := hP
      have hD : va_D A (wS cyI qa vsr a1) := hD
      refine lv_aload_n hx hb dX2_takeIfBetter_14 rfl (lv_at hl 0 rfl) ?_
      refine va_get (D := D) (ci := 2) (v := .ref (qa 1)) (C := RX2) (T := TX2) (N := 4) hx hb hts in_X2_takeIfBetter_X2 hown hK.1 hP 0 rfl rfl 0 (by decide) (hts _ kw_X2_takeIfBetter_2) (fun _ h9 => h9) rfl dX2_takeIfBetter_15 ?_
      refine lv_iconst (v := (0 : Int32)) hx hb dX2_takeIfBetter_18 (by decide) ?_
      refine lv_aload_n hx hb dX2_takeIfBetter_19 rfl (lv_at hl 0 rfl) ?_
      refine va_get (D := D) (ci := 2) (v := .ref (qa 2)) (C := RX2) (T := TX2) (N := 4) hx hb hts in_X2_takeIfBetter_X2 hown hK.1 hP 0 rfl rfl 1 (by decide) (hts _ kw_X2_takeIfBetter_3) (fun _ h9 => h9) rfl dX2_takeIfBetter_20 ?_
      refine lv_iconst (v := (0 : Int32)) hx hb dX2_takeIfBetter_23 (by decide) ?_
      refine lv_iconst (v := (5 : Int32)) hx hb dX2_takeIfBetter_24 (by decide) ?_
      refine va_copyi hx hb (hml.trans hl.1.symm) hown (hts _ kw_X2_takeIfBetter_4) (hts _ kw_X2_takeIfBetter_5) (hts _ kw_X2_takeIfBetter_6) (hts _ kw_X2_takeIfBetter_7) hK.1 hP hD hS 1 2 0 0 rfl rfl rfl rfl rfl (by decide) (by decide) (by decide) (by decide) (by decide) (fun _ _ => rfl) (Nat.le_of_ble_eq_true rfl) (Nat.le_of_ble_eq_true rfl) dX2_takeIfBetter_25 (fun H locs hP hD hS => ?_)
      rw [show (0 : Int32).toNatClampNeg = 0 from by decide, show (5 : Int32).toNatClampNeg = 5 from by decide] at hP hD
      have hP : va_P D vwCl (wS cyI qa (va_up vsr.1 1 (va_cpy (vsr.1 0) (vsr.1 1) 0 0 5), vsr.2) a1) H := hP
      have hD : va_D A (wS cyI qa (va_up vsr.1 1 (va_cpy (vsr.1 0) (vsr.1 1) 0 0 5), vsr.2) a1) := hD
      exact W.vret hx hb hr (fun t ht _ => ⟨⟨_, rfl, Option.some.inj h, by rw [ht]; exact hP, hD⟩, hS.F ht⟩) hS.2.2 dX2_takeIfBetter_28 hlocks
  exact key s.heap [] hP hD hS
theorem kw_X2_tryFrom_1 : (.fieldLink RX2 30 "BellTheCat$House" "stepCount" "I" : Cond) ∈ wsX2_tryFrom := List.mem_of_getElem? (i := 1) rfl
theorem kw_X2_tryFrom_2 : (.fieldLink RX2 26 "BellTheCat$Search" "bestAbove" "J" : Cond) ∈ wsX2_tryFrom := List.mem_of_getElem? (i := 2) rfl
theorem kw_X2_tryFrom_3 : (.fieldLink RX2 62 "BellTheCat$House" "miceCount" "I" : Cond) ∈ wsX2_tryFrom := List.mem_of_getElem? (i := 3) rfl
theorem kw_X2_tryFrom_4 : (.fieldLink RX2 9 "BellTheCat$Search" "row" "[I" : Cond) ∈ wsX2_tryFrom := List.mem_of_getElem? (i := 4) rfl
theorem kw_X2_tryFrom_5 : (.fieldLink RX2 42 "BellTheCat$Search" "mayRepeat" "Z" : Cond) ∈ wsX2_tryFrom := List.mem_of_getElem? (i := 5) rfl
theorem kw_X2_tryFrom_22 : (.static yX7_tenTo : Cond) ∈ wsX2_tryFrom := List.mem_of_getElem? (i := 22) rfl
theorem kw_X2_tryFrom_23 : (.initialized RX7 : Cond) ∈ wsX2_tryFrom := List.mem_of_getElem? (i := 23) rfl
theorem in_X2_tryFrom_X0 : ∀ w ∈ wsX00, w ∈ wsX2_tryFrom := fun w h => List.mem_cons_of_mem _ (List.mem_append_left _ (List.mem_append_right _ h))
theorem in_X2_tryFrom_X2 : ∀ w ∈ wsX20, w ∈ wsX2_tryFrom := fun w h => List.mem_cons_of_mem _ (List.mem_append_right _ h)
abbrev rm_X2_tryFrom (d : Nat) : Room := { frames := 12 + d, cells := 0, slots := 0, locals := 600 + 40 * d }
set_option maxHeartbeats 4000000 in
set_option maxRecDepth 100000 in
theorem c_X2_tryFrom (l : Launch) (D : va_G) (cyI cyZ cyT : ClassId) (N : Nat) : ∀ (dd : Nat) (qa qb : Nat → Nat) (sz : Nat) (a2 : Int32) (a3 : Int64) (a5 : Int32) (vsr : Mo) (vbL : Int64) (vh : Mo) (o : (Mo × Int64)) (hf : f_X2_tryFrom N dd a2 a3 a5 vsr vbL vh = some o), Met l yX2_tryFrom wsX2_tryFrom (rm_X2_tryFrom dd) (va_Pc [.ref (qa 0), .ref (qb 0), .int a2, .long a3, .int a5] (jM D cyI cyZ cyT (wS cyI qa vsr vbL ++ wH cyI qb vh) sz)) (jQv D (va_A (wS cyI qa vsr vbL ++ wH cyI qb vh) sz) (fun u : (Mo × Int64) => wS cyI qa u.1 u.2 ++ wH cyI qb vh) o) 0 0 (va_A (wS cyI qa vsr vbL ++ wH cyI qb vh) sz) := by
  intro dd
  induction dd with
  | zero => intro qa qb sz a2 a3 a5 vsr vbL vh o hf; cases hf
  | succ dd ih =>
    intro qa qb sz a2 a3 a5 vsr vbL vh o hf
    refine Met.ofW (cc := cX2_tryFrom) (maxL := 8) (ret := none) (by decide) rfl ?_
    intro p e s m args below meth c s₁ B hml hv
    obtain ⟨rfl, hsz, hP, hK, hD0⟩ := hv
    have hx := B.exec
    have hb := B.bytes
    have hr := B.returns
    have hts := atoms_spec (ws := wsX2_tryFrom) B.pre
    have hown : s.vm.findClass RX2 = some m.cls := findClass_of_methodNamed B.named
    have hlocks := B.notSynchronized
    subst hsz
    have hD := hD0.self (sz := s.heap.size)
    generalize hAe : va_A (wS cyI qa vsr vbL ++ wH cyI qb vh) s.heap.size = A at hD ⊢
    have hA : ∀ q : Nat, s.heap.size ≤ q → A q := fun q h => by rw [← hAe]; exact Or.inr h
    have hS : va_S A s.heap s.heap [] := va_S.rf
    have hl := lv_entry ([.ref (qa 0), .ref (qb 0), .int a2, .long a3, .int a5]) (n := 8) (Nat.le_of_ble_eq_true rfl)
    rw [lg_entry_eq]
    generalize (lg_sl ([.ref (qa 0), .ref (qb 0), .int a2, .long a3, .int a5]) ++ List.replicate (8 - (lg_sl ([.ref (qa 0), .ref (qb 0), .int a2, .long a3, .int a5])).length) Slot.unset).toArray = ls at hl ⊢
    have hl : lv_has ls 8 [(0, .ref (qa 0)), (1, .ref (qb 0)), (2, .int a2), (3, .long a3), (5, .int a5)] := hl
    clear B
    generalize ([.ref (qa 0), .ref (qb 0), .int a2, .long a3, .int a5] : List Value).toArray = args at hts ⊢
    have key : ∀ (H : Heap) (locs : List Loc), va_P D vwCl (wS cyI qa vsr vbL ++ wH cyI qb vh) H → va_D A (wS cyI qa vsr vbL ++ wH cyI qb vh) → va_S A s.heap H locs → W p l e (rm_X2_tryFrom (dd + 1)) s m args below meth c H locs 0 0 (MQ below (jQv D A (fun u : (Mo × Int64) => wS cyI qa u.1 u.2 ++ wH cyI qb vh) o) args s 0 0 A) (F0 m 0 ls []) := by
      intro H locs hP hD hS
      have h := hf
      unfold f_X2_tryFrom at h
      refine lv_aload_n hx hb dX2_tryFrom_0 rfl (lv_at hl 1 rfl) ?_
      refine lv_iload_n hx hb dX2_tryFrom_1 rfl (lv_at hl 2 rfl) ?_
      obtain ⟨z1, hz1, h⟩ := jb h
      refine jki (jrV (As := [.int a2]) (rest := []) ⟨hx, hb, hml, hown, hts⟩ (c_X0_hasStep l D cyI cyZ cyT qb  a2 vh z1 hz1) (cwV 1 hts gX2_tryFrom_X0_hasStep rfl rfl rfl (by decide +kernel) ⟨by dsimp only [rm_X0_hasStep, rm_X2_tryFrom]; omega, by dsimp only [rm_X0_hasStep, rm_X2_tryFrom]; omega⟩) hK (hP.sub (ws' := wH cyI qb vh) [3, 4, 5, 6, 7, 8, 9, 10, 11] rfl) rfl 0 0 rfl rfl rfl hl.1 (Nat.le_of_ble_eq_true rfl) dX2_tryFrom_2 ⟨Nat.le_of_ble_eq_true rfl, Nat.le_of_ble_eq_true rfl⟩) ?_
      clear hz1
      refine lv_if_ne (tgt := 14) hx hb dX2_tryFrom_5 (by decide) (fun c2 => ?_) (fun c2 => ?_)
      · have h := jf c2 h
        refine lv_lload_n hx hb dX2_tryFrom_14 rfl (lv_at hl 3 rfl) ?_
        refine lv_aload_n hx hb dX2_tryFrom_15 rfl (lv_at hl 1 rfl) ?_
        refine va_get (D := D) (ci := 0) (v := .int (vh.2 1)) (C := RX0) (T := TX0) (N := 12) hx hb hts in_X2_tryFrom_X0 hown hK.1 hP 3 rfl rfl 9 (by decide) (hts _ kw_X2_tryFrom_1) (fun _ h9 => h9) rfl dX2_tryFrom_16 ?_
        refine lv_iload_n hx hb dX2_tryFrom_19 rfl (lv_at hl 2 rfl) ?_
        refine lv_isub hx hb dX2_tryFrom_20 ?_
        obtain ⟨z3, hz3, h⟩ := jb h
        refine jkl (jrN (As := [.int ((vh.2 1) - a2)]) (rest := [.long a3]) ⟨hx, hb, hml, hown, hts⟩ (c_X7_tenTo l D cyI cyZ cyT   N ((vh.2 1) - a2) z3 hz3) ⟨va_cnB 1 hts gX2_tryFrom_X7_tenTo_n58 rfl rfl rfl hK.2.2.2.2.1 (hts _ kw_X2_tryFrom_23) (by decide +kernel) ⟨by dsimp only [rm_X7_tenTo, rm_X2_tryFrom]; omega, by dsimp only [rm_X7_tenTo, rm_X2_tryFrom]; omega⟩, hts _ kw_X2_tryFrom_22, trivial⟩ hK jP0 rfl rfl hl.1 (Nat.le_of_ble_eq_true rfl) dX2_tryFrom_21 ⟨Nat.le_of_ble_eq_true rfl, Nat.le_of_ble_eq_true rfl⟩) ?_
        clear hz3
        refine lv_lmul hx hb dX2_tryFrom_24 ?_
        refine lv_aload_n hx hb dX2_tryFrom_25 rfl (lv_at hl 0 rfl) ?_
        refine va_get (D := D) (ci := 2) (v := .long vbL) (C := RX2) (T := TX2) (N := 4) hx hb hts in_X2_tryFrom_X2 hown hK.1 hP 0 rfl rfl 2 (by decide) (hts _ kw_X2_tryFrom_2) (fun _ h9 => h9) rfl dX2_tryFrom_26 ?_
        refine W.lcmp hx hb dX2_tryFrom_29 ?_
        refine lv_if_gt (tgt := 34) hx hb dX2_tryFrom_30 (by decide) (fun c4 => ?_) (fun c4 => ?_)
        · have h := jt ((lg_cmp_gt _ _).mp c4) h
          refine lv_iconst (v := (0 : Int32)) hx hb dX2_tryFrom_34 (by decide) ?_
          refine lv_istore (lv' := [(6, .int (0 : Int32)), (0, .ref (qa 0)), (1, .ref (qb 0)), (2, .int a2), (3, .long a3), (5, .int a5)]) hx hb dX2_tryFrom_35 hl (by decide) rfl (fun ls hl => ?_)
          obtain ⟨r5, hz5, h5_⟩ := jb h
          have hex5 : ∀ e5 : (Mo × Int64), r5 = e5 → ∀ (H : Heap) (locs : List Loc), va_P D vwCl (wS cyI qa e5.1 e5.2 ++ wH cyI qb vh) H → va_D A (wS cyI qa e5.1 e5.2 ++ wH cyI qb vh) → va_S A s.heap H locs → ∀ (ls : Array Slot), lv_has ls 8 [] → W p l e (rm_X2_tryFrom (dd + 1)) s m args below meth c H locs 0 0 (MQ below (jQv D A (fun u : (Mo × Int64) => wS cyI qa u.1 u.2 ++ wH cyI qb vh) o) args s 0 0 A) (F0 m 117 ls []) := by
            intro e5 he H locs hP hD hS ls hl
            rw [he] at h5_
            have h := h5_
            clear hz5
            exact W.vret hx hb hr (fun t ht _ => ⟨⟨_, rfl, Option.some.inj h, by rw [ht]; exact hP, hD⟩, hS.F ht⟩) hS.2.2 dX2_tryFrom_117 hlocks
          have hlp5 : ∀ (nn : Nat) (z5 : (Int32 × Mo × Int64)), jw (X2_tryFrom_s37 (f_X2_tryFrom N dd) a2 a3 a5 vh) nn z5 = some r5 → ∀ (H : Heap) (locs : List Loc), va_P D vwCl (wS cyI qa z5.2.1 z5.2.2 ++ wH cyI qb vh) H → va_D A (wS cyI qa z5.2.1 z5.2.2 ++ wH cyI qb vh) → va_S A s.heap H locs → ∀ (ls : Array Slot), lv_has ls 8 [(0, .ref (qa 0)), (1, .ref (qb 0)), (2, .int a2), (3, .long a3), (5, .int a5), (6, .int z5.1)] → W p l e (rm_X2_tryFrom (dd + 1)) s m args below meth c H locs 0 0 (MQ below (jQv D A (fun u : (Mo × Int64) => wS cyI qa u.1 u.2 ++ wH cyI qb vh) o) args s 0 0 A) (F0 m 37 ls []) := by
            refine jw_P (r := r5) (P := fun z5 : (Int32 × Mo × Int64) => ∀ (H : Heap) (locs : List Loc), va_P D vwCl (wS cyI qa z5.2.1 z5.2.2 ++ wH cyI qb vh) H → va_D A (wS cyI qa z5.2.1 z5.2.2 ++ wH cyI qb vh) → va_S A s.heap H locs → ∀ (ls : Array Slot), lv_has ls 8 [(0, .ref (qa 0)), (1, .ref (qb 0)), (2, .int a2), (3, .long a3), (5, .int a5), (6, .int z5.1)] → W p l e (rm_X2_tryFrom (dd + 1)) s m args below meth c H locs 0 0 (MQ below (jQv D A (fun u : (Mo × Int64) => wS cyI qa u.1 u.2 ++ wH cyI qb vh) o) args s 0 0 A) (F0 m 37 ls [])) ?_
            intro z5 x5 h hin hout H locs hP hD hS ls hl
            unfold X2_tryFrom_s37 at h
            refine lv_iload hx hb dX2_tryFrom_37 (lv_at hl 5 rfl) ?_
            refine lv_aload_n hx hb dX2_tryFrom_39 rfl (lv_at hl 1 rfl) ?_
            refine va_get (D := D) (ci := 0) (v := .int (vh.2 0)) (C := RX0) (T := TX0) (N := 12) hx hb hts in_X2_tryFrom_X0 hown hK.1 hP 3 rfl rfl 8 (by decide) (hts _ kw_X2_tryFrom_3) (fun _ h9 => h9) rfl dX2_tryFrom_40 ?_
            refine lv_icmp_ge (tgt := 117) hx hb dX2_tryFrom_43 (by decide) (fun c6 => ?_) (fun c6 => ?_)
            · have h := jt c6 h
              exact hex5 _ (hout _ (Option.some.inj h).symm).symm H locs hP hD hS ls (lv_sub hl [] rfl)
            · have h := jf c6 h
              refine lv_iload hx hb dX2_tryFrom_46 (lv_at hl 4 rfl) ?_
              refine lv_iload hx hb dX2_tryFrom_48 (lv_at hl 5 rfl) ?_
              refine lv_ishr hx hb dX2_tryFrom_50 ?_
              refine lv_iconst (v := (1 : Int32)) hx hb dX2_tryFrom_51 (by decide) ?_
              refine lv_iand hx hb dX2_tryFrom_52 ?_
              refine lv_iconst (v := (1 : Int32)) hx hb dX2_tryFrom_53 (by decide) ?_
              obtain ⟨z7, hz7, h⟩ := jb h
              have hk7 : ∀ (H : Heap) (locs : List Loc), va_P D vwCl (wS cyI qa z7.1 z7.2 ++ wH cyI qb vh) H → va_D A (wS cyI qa z7.1 z7.2 ++ wH cyI qb vh) → va_S A s.heap H locs → ∀ (ls : Array Slot), lv_has ls 8 [(0, .ref (qa 0)), (1, .ref (qb 0)), (2, .int a2), (3, .long a3), (5, .int a5), (6, .int z5.1)] → W p l e (rm_X2_tryFrom (dd + 1)) s m args below meth c H locs 0 0 (MQ below (jQv D A (fun u : (Mo × Int64) => wS cyI qa u.1 u.2 ++ wH cyI qb vh) o) args s 0 0 A) (F0 m 111 ls []) := by
                intro H locs hP hD hS ls hl
                refine lv_iinc (v := z5.1 + (1 : Int32)) (lv' := [(6, .int (z5.1 + (1 : Int32))), (0, .ref (qa 0)), (1, .ref (qb 0)), (2, .int a2), (3, .long a3), (5, .int a5)]) hx hb dX2_tryFrom_111 hl (k := 5) rfl rfl (by decide) rfl (fun ls hl => ?_)
                refine lv_goto (tgt := 37) hx hb dX2_tryFrom_114 (by decide) ?_
                exact hin _ (Option.some.inj h).symm H locs hP hD hS ls (lv_sub hl [1, 2, 3, 4, 5, 0] rfl)
              clear h
              have h := hz7
              clear hz7
              refine lv_icmp_ne (tgt := 111) hx hb dX2_tryFrom_54 (by decide) (fun c8 => ?_) (fun c8 => ?_)
              · have h := jf c8 h
                obtain rfl := Option.some.inj h
                exact hk7 H locs hP hD hS ls (lv_sub hl [0, 1, 2, 3, 4, 5] rfl)
              · have h := jt c8 h
                refine lv_aload_n hx hb dX2_tryFrom_57 rfl (lv_at hl 0 rfl) ?_
                refine va_get (D := D) (ci := 2) (v := .ref (qa 1)) (C := RX2) (T := TX2) (N := 4) hx hb hts in_X2_tryFrom_X2 hown hK.1 hP 0 rfl rfl 0 (by decide) (hts _ kw_X2_tryFrom_4) (fun _ h9 => h9) rfl dX2_tryFrom_58 ?_
                refine lv_iload_n hx hb dX2_tryFrom_61 rfl (lv_at hl 2 rfl) ?_
                refine lv_iload hx hb dX2_tryFrom_62 (lv_at hl 5 rfl) ?_
                obtain ⟨g9, h⟩ := jn h
                refine jast (w' := wS cyI qa (va_up z5.2.1.1 0 (upd (z5.2.1.1 0) a2.toNatClampNeg z5.1), z5.2.1.2) z5.2.2 ++ wH cyI qb vh) hx hb hK hP hD hS 1 rfl _ rfl g9 rfl dX2_tryFrom_64 (fun H locs hP hD hS => ?_)
                refine lv_aload_n hx hb dX2_tryFrom_65 rfl (lv_at hl 0 rfl) ?_
                refine va_get (D := D) (ci := 2) (v := .int (z5.2.1.2 0)) (C := RX2) (T := TX2) (N := 4) hx hb hts in_X2_tryFrom_X2 hown hK.1 hP 0 rfl rfl 3 (by decide) (hts _ kw_X2_tryFrom_5) (fun _ h9 => h9) rfl dX2_tryFrom_66 ?_
                obtain ⟨z10, hz10, h⟩ := jb h
                have hk10 : ∀ (H : Heap) (locs : List Loc), va_P D vwCl (wS cyI qa (va_up z5.2.1.1 0 (upd (z5.2.1.1 0) a2.toNatClampNeg z5.1), z5.2.1.2) z5.2.2 ++ wH cyI qb vh) H → va_D A (wS cyI qa (va_up z5.2.1.1 0 (upd (z5.2.1.1 0) a2.toNatClampNeg z5.1), z5.2.1.2) z5.2.2 ++ wH cyI qb vh) → va_S A s.heap H locs → ∀ (ls : Array Slot), lv_has ls 8 [(0, .ref (qa 0)), (1, .ref (qb 0)), (2, .int a2), (3, .long a3), (5, .int a5), (6, .int z5.1)] → W p l e (rm_X2_tryFrom (dd + 1)) s m args below meth c H locs 0 0 (MQ below (jQv D A (fun u : (Mo × Int64) => wS cyI qa u.1 u.2 ++ wH cyI qb vh) o) args s 0 0 A) (F0 m 86 ls [.int z10]) := by
                  intro H locs hP hD hS ls hl
                  refine lv_istore (lv' := [(7, .int z10), (0, .ref (qa 0)), (1, .ref (qb 0)), (2, .int a2), (3, .long a3), (5, .int a5), (6, .int z5.1)]) hx hb dX2_tryFrom_86 hl (by decide) rfl (fun ls hl => ?_)
                  refine lv_aload_n hx hb dX2_tryFrom_88 rfl (lv_at hl 1 rfl) ?_
                  refine lv_aload_n hx hb dX2_tryFrom_89 rfl (lv_at hl 2 rfl) ?_
                  refine lv_iload_n hx hb dX2_tryFrom_90 rfl (lv_at hl 3 rfl) ?_
                  refine lv_iconst (v := (1 : Int32)) hx hb dX2_tryFrom_91 (by decide) ?_
                  refine lv_iadd hx hb dX2_tryFrom_92 ?_
                  refine lv_lload_n hx hb dX2_tryFrom_93 rfl (lv_at hl 4 rfl) ?_
                  refine lv_bipush (v := (10 : Int32)) hx hb dX2_tryFrom_94 (by decide) ?_
                  refine lv_aload_n hx hb dX2_tryFrom_96 rfl (lv_at hl 2 rfl) ?_
                  refine lv_iload_n hx hb dX2_tryFrom_97 rfl (lv_at hl 3 rfl) ?_
                  refine lv_iload hx hb dX2_tryFrom_98 (lv_at hl 6 rfl) ?_
                  obtain ⟨z12, hz12, h⟩ := jb h
                  refine jki (jrV (As := [.int a2, .int z5.1]) (rest := [.int (10 : Int32), .long a3, .int (a2 + (1 : Int32)), .ref (qb 0), .ref (qa 0)]) ⟨hx, hb, hml, hown, hts⟩ (c_X0_dangerAt l D cyI cyZ cyT qb  a2 z5.1 vh z12 hz12) (cwV 2 hts gX2_tryFrom_X0_dangerAt rfl rfl rfl (by decide +kernel) ⟨by dsimp only [rm_X0_dangerAt, rm_X2_tryFrom]; omega, by dsimp only [rm_X0_dangerAt, rm_X2_tryFrom]; omega⟩) hK (hP.sub (ws' := wH cyI qb vh) [3, 4, 5, 6, 7, 8, 9, 10, 11] rfl) rfl 0 0 rfl rfl rfl hl.1 (Nat.le_of_ble_eq_true rfl) dX2_tryFrom_100 ⟨Nat.le_of_ble_eq_true rfl, Nat.le_of_ble_eq_true rfl⟩) ?_
                  clear hz12
                  refine lv_isub hx hb dX2_tryFrom_103 ?_
                  refine lv_i2l (v := ((10 : Int32) - z12).toInt64) hx hb dX2_tryFrom_104 rfl ?_
                  refine lv_lmul hx hb dX2_tryFrom_105 ?_
                  refine lv_iload hx hb dX2_tryFrom_106 (lv_at hl 0 rfl) ?_
                  obtain ⟨z13, hz13, h⟩ := jb h
                  refine jgv (w1 := fun u : (Mo × Int64) => wS cyI qa u.1 u.2 ++ wH cyI qb vh) (wn := wS cyI qa z13.1 z13.2 ++ wH cyI qb vh) (jmS (As := [.ref (qa 0), .ref (qb 0), .int (a2 + (1 : Int32)), .long (a3 * (((10 : Int32) - z12).toInt64)), .int z10]) (rest := []) ⟨hx, hb, hml, hown, hts⟩ (ih qa qb H.size (a2 + (1 : Int32)) (a3 * (((10 : Int32) - z12).toInt64)) z10 (va_up z5.2.1.1 0 (upd (z5.2.1.1 0) a2.toNatClampNeg z5.1), z5.2.1.2) z5.2.2 vh z13 hz13) (va_cwS 5 hts gX2_tryFrom_X2_tryFrom rfl rfl rfl (by decide +kernel) ⟨by dsimp only [rm_X2_tryFrom, rm_X2_tryFrom]; omega, by dsimp only [rm_X2_tryFrom, rm_X2_tryFrom]; omega⟩) hK hP hD rfl rfl hl.1 (Nat.le_of_ble_eq_true rfl) dX2_tryFrom_108 ⟨Nat.le_of_ble_eq_true rfl, Nat.le_of_ble_eq_true rfl⟩) hP hD hS hA [0, 1, 2, 3, 4, 5, 6, 7, 8, 9, 10, 11] [] [0, 1, 2, 3, 4, 5, 6, 7, 8, 9, 10, 11] rfl rfl (by decide) (by decide) rfl (by decide) (fun H locs hP hD hS => ?_)
                  clear hz13
                  obtain rfl := Option.some.inj h
                  exact hk7 H locs hP hD hS ls (lv_sub hl [1, 2, 3, 4, 5, 6] rfl)
                clear h
                have h := hz10
                clear hz10
                refine lv_if_eq (tgt := 77) hx hb dX2_tryFrom_69 (by decide) (fun c11 => ?_) (fun c11 => ?_)
                · have h := jt c11 h
                  refine lv_iload hx hb dX2_tryFrom_77 (lv_at hl 4 rfl) ?_
                  refine lv_iconst (v := (1 : Int32)) hx hb dX2_tryFrom_79 (by decide) ?_
                  refine lv_iload hx hb dX2_tryFrom_80 (lv_at hl 5 rfl) ?_
                  refine lv_ishl hx hb dX2_tryFrom_82 ?_
                  refine lv_iconst (v := (-1 : Int32)) hx hb dX2_tryFrom_83 (by decide) ?_
                  refine lv_ixor hx hb dX2_tryFrom_84 ?_
                  refine lv_iand hx hb dX2_tryFrom_85 ?_
                  obtain rfl := Option.some.inj h
                  exact hk10 H locs hP hD hS ls (lv_sub hl [0, 1, 2, 3, 4, 5] rfl)
                · have h := jf c11 h
                  refine lv_iload hx hb dX2_tryFrom_72 (lv_at hl 4 rfl) ?_
                  refine lv_goto (tgt := 86) hx hb dX2_tryFrom_74 (by decide) ?_
                  obtain rfl := Option.some.inj h
                  exact hk10 H locs hP hD hS ls (lv_sub hl [0, 1, 2, 3, 4, 5] rfl)
          exact hlp5 _ _ hz5 H locs hP hD hS ls (lv_sub hl [1, 2, 3, 4, 5, 0] rfl)
        · have h := jf (fun e => c4 ((lg_cmp_gt _ _).mpr e)) h
          exact W.vret hx hb hr (fun t ht _ => ⟨⟨_, rfl, Option.some.inj h, by rw [ht]; exact hP, hD⟩, hS.F ht⟩) hS.2.2 dX2_tryFrom_33 hlocks
      · have h := jt c2 h
        refine lv_aload_n hx hb dX2_tryFrom_8 rfl (lv_at hl 0 rfl) ?_
        refine lv_lload_n hx hb dX2_tryFrom_9 rfl (lv_at hl 3 rfl) ?_
        obtain ⟨z14, hz14, h⟩ := jb h
        refine jgv (w1 := fun u : (Mo × Int64) => wS cyI qa u.1 u.2) (wn := wS cyI qa z14.1 z14.2 ++ wH cyI qb vh) (jmV (As := [.long a3]) (rest := []) ⟨hx, hb, hml, hown, hts⟩ (c_X2_takeIfBetter l D cyI cyZ cyT qa H.size a3 vsr vbL z14 hz14) (cwV 1 hts gX2_tryFrom_X2_takeIfBetter rfl rfl rfl (by decide +kernel) ⟨by dsimp only [rm_X2_takeIfBetter, rm_X2_tryFrom]; omega, by dsimp only [rm_X2_takeIfBetter, rm_X2_tryFrom]; omega⟩) hK (hP.sub (ws' := wS cyI qa vsr vbL) [0, 1, 2] rfl) (hD.sub (ws' := wS cyI qa vsr vbL) [0, 1, 2] (by decide) rfl) rfl 2 0 rfl rfl rfl hl.1 (Nat.le_of_ble_eq_true rfl) dX2_tryFrom_10 ⟨Nat.le_of_ble_eq_true rfl, Nat.le_of_ble_eq_true rfl⟩) hP hD hS hA [0, 1, 2] [3, 4, 5, 6, 7, 8, 9, 10, 11] [9, 10, 11, 0, 1, 2, 3, 4, 5, 6, 7, 8] rfl rfl (by decide) (by decide) rfl (by decide) (fun H locs hP hD hS => ?_)
        clear hz14
        exact W.vret hx hb hr (fun t ht _ => ⟨⟨_, rfl, Option.some.inj h, by rw [ht]; exact hP, hD⟩, hS.F ht⟩) hS.2.2 dX2_tryFrom_13 hlocks
    exact key s.heap [] hP hD hS
theorem kw_X2_run_1 : (.fieldLink RX2 15 "BellTheCat$Search" "bestRow" "[I" : Cond) ∈ wsX2_run := List.mem_of_getElem? (i := 1) rfl
theorem kw_X2_run_2 : (.constantLong RX2 24 (-1) : Cond) ∈ wsX2_run := List.mem_of_getElem? (i := 2) rfl
theorem kw_X2_run_3 : (.fieldLink RX2 26 "BellTheCat$Search" "bestAbove" "J" : Cond) ∈ wsX2_run := List.mem_of_getElem? (i := 3) rfl
theorem kw_X2_run_4 : (.fieldLink RX2 30 "BellTheCat$House" "stepCount" "I" : Cond) ∈ wsX2_run := List.mem_of_getElem? (i := 4) rfl
theorem kw_X2_run_5 : (.fieldLink RX2 42 "BellTheCat$Search" "mayRepeat" "Z" : Cond) ∈ wsX2_run := List.mem_of_getElem? (i := 5) rfl
theorem in_X2_run_X0 : ∀ w ∈ wsX00, w ∈ wsX2_run := fun w h => List.mem_cons_of_mem _ (List.mem_append_right _ h)
theorem in_X2_run_X2 : ∀ w ∈ wsX20, w ∈ wsX2_run := fun w h => List.mem_cons_of_mem _ (List.mem_append_left _ (List.mem_append_right _ h))
abbrev rm_X2_run : Room := { frames := 20, cells := 0, slots := 0, locals := 907 }
set_option maxHeartbeats 4000000 in
set_option maxRecDepth 100000 in
theorem c_X2_run (l : Launch) (D : va_G) (cyI cyZ cyT : ClassId) (qa qb : Nat → Nat) (sz : Nat) (N : Nat) (a2 : Int32) (vsr : Mo) (vbL : Int64) (vh : Mo) (o : (Mo × Int64)) (hf : f_X2_run N a2 vsr vbL vh = some o) : Met l yX2_run wsX2_run rm_X2_run (va_Pc [.ref (qa 0), .ref (qb 0), .int a2] (jM D cyI cyZ cyT (wS cyI qa vsr vbL ++ wH cyI qb vh) sz)) (jQv D (va_A (wS cyI qa vsr vbL ++ wH cyI qb vh) sz) (fun u : (Mo × Int64) => wS cyI qa u.1 u.2 ++ wH cyI qb vh) o) 0 0 (va_A (wS cyI qa vsr vbL ++ wH cyI qb vh) sz) := by
  refine Met.ofW (cc := cX2_run) (maxL := 3) (ret := none) (by decide) rfl ?_
  intro p e s m args below meth c s₁ B hml hv
  obtain ⟨rfl, hsz, hP, hK, hD0⟩ := hv
  have hx := B.exec
  have hb := B.bytes
  have hr := B.returns
  have hts := atoms_spec (ws := wsX2_run) B.pre
  have hown : s.vm.findClass RX2 = some m.cls := findClass_of_methodNamed B.named
  have hlocks := B.notSynchronized
  subst hsz
  have hD := hD0.self (sz := s.heap.size)
  generalize hAe : va_A (wS cyI qa vsr vbL ++ wH cyI qb vh) s.heap.size = A at hD ⊢
  have hA : ∀ q : Nat, s.heap.size ≤ q → A q := fun q h => by rw [← hAe]; exact Or.inr h
  have hS : va_S A s.heap s.heap [] := va_S.rf
  have hl := lv_entry ([.ref (qa 0), .ref (qb 0), .int a2]) (n := 3) (Nat.le_of_ble_eq_true rfl)
  rw [lg_entry_eq]
  generalize (lg_sl ([.ref (qa 0), .ref (qb 0), .int a2]) ++ List.replicate (3 - (lg_sl ([.ref (qa 0), .ref (qb 0), .int a2])).length) Slot.unset).toArray = ls at hl ⊢
  have hl : lv_has ls 3 [(0, .ref (qa 0)), (1, .ref (qb 0)), (2, .int a2)] := hl
  clear B
  generalize ([.ref (qa 0), .ref (qb 0), .int a2] : List Value).toArray = args at hts ⊢
  have key : ∀ (H : Heap) (locs : List Loc), va_P D vwCl (wS cyI qa vsr vbL ++ wH cyI qb vh) H → va_D A (wS cyI qa vsr vbL ++ wH cyI qb vh) → va_S A s.heap H locs → W p l e rm_X2_run s m args below meth c H locs 0 0 (MQ below (jQv D A (fun u : (Mo × Int64) => wS cyI qa u.1 u.2 ++ wH cyI qb vh) o) args s 0 0 A) (F0 m 0 ls []) := by
    intro H locs hP hD hS
    have h := hf
    unfold f_X2_run at h
    refine lv_aload_n hx hb dX2_run_0 rfl (lv_at hl 0 rfl) ?_
    refine va_get (D := D) (ci := 2) (v := .ref (qa 2)) (C := RX2) (T := TX2) (N := 4) hx hb hts in_X2_run_X2 hown hK.1 hP 0 rfl rfl 1 (by decide) (hts _ kw_X2_run_1) (fun _ h9 => h9) rfl dX2_run_1 ?_
    refine lv_iconst (v := (-1 : Int32)) hx hb dX2_run_4 (by decide) ?_
    obtain ⟨z1, hz1, h⟩ := jb h
    refine jgv (w1 := fun u : (Nat → Int32) => wA cyI (fun k => qa (2 + k)) 5 u) (wn := wS cyI qa (va_up vsr.1 1 z1, vsr.2) vbL ++ wH cyI qb vh) (jmS (As := [.ref (qa 2), .int (-1 : Int32)]) (rest := []) ⟨hx, hb, hml, hown, hts⟩ (c_J7_fill_53178 l D cyI cyZ cyT (fun k => qa (2 + k)) H.size N (-1 : Int32) 5 (vsr.1 1) z1 hz1) (va_cwS 2 hts gX2_run_J7_fill_53178 rfl rfl rfl (by decide +kernel) ⟨Nat.le_of_ble_eq_true rfl, Nat.le_of_ble_eq_true rfl⟩) hK (hP.sub (ws' := wA cyI (fun k => qa (2 + k)) 5 (vsr.1 1)) [2] rfl) (hD.sub (ws' := wA cyI (fun k => qa (2 + k)) 5 (vsr.1 1)) [2] (by decide) rfl) rfl rfl hl.1 (Nat.le_of_ble_eq_true rfl) dX2_run_5 ⟨Nat.le_of_ble_eq_true rfl, Nat.le_of_ble_eq_true rfl⟩) hP hD hS hA [2] [0, 1, 3, 4, 5, 6, 7, 8, 9, 10, 11] [0, 1, 11, 2, 3, 4, 5, 6, 7, 8, 9, 10] rfl rfl (by decide) (by decide) rfl (by decide) (fun H locs hP hD hS => ?_)
    clear hz1
    refine lv_aload_n hx hb dX2_run_8 rfl (lv_at hl 0 rfl) ?_
    refine lv_ldc2 (v := (-1 : Int64)) hx hb hown (hts _ kw_X2_run_2) dX2_run_9 ?_
    refine va_put (D := D) (ci := 2) (v := .long (-1 : Int64)) (ty := .long) (C := RX2) (T := TX2) (N := 4) hx hb hts in_X2_run_X2 tyX2 tyX2_ok nmX2 hown hK.1 hP hD hS 0 rfl rfl 2 (by decide) (hts _ kw_X2_run_3) (fun _ h9 => h9) rfl (tyX2_ok 2 (by decide)) rfl rfl (Nat.le_of_ble_eq_true rfl) dX2_run_12 (fun H locs hP hD hS => ?_)
    have hP : va_P D vwCl (wS cyI qa (va_up vsr.1 1 z1, vsr.2) (-1 : Int64) ++ wH cyI qb vh) H := hP
    have hD : va_D A (wS cyI qa (va_up vsr.1 1 z1, vsr.2) (-1 : Int64) ++ wH cyI qb vh) := hD
    refine lv_aload_n hx hb dX2_run_15 rfl (lv_at hl 0 rfl) ?_
    refine lv_aload_n hx hb dX2_run_16 rfl (lv_at hl 1 rfl) ?_
    refine va_get (D := D) (ci := 0) (v := .int (vh.2 1)) (C := RX0) (T := TX0) (N := 12) hx hb hts in_X2_run_X0 hown hK.1 hP 3 rfl rfl 9 (by decide) (hts _ kw_X2_run_4) (fun _ h9 => h9) rfl dX2_run_17 ?_
    refine lv_iload_n hx hb dX2_run_20 rfl (lv_at hl 2 rfl) ?_
    obtain ⟨z2, hz2, h⟩ := jb h
    refine jki (jrS (As := [.int a2]) (rest := [.int (vh.2 1), .ref (qa 0)]) ⟨hx, hb, hml, hown, hts⟩ (c_J6_bitCount_0f7a4 l D cyI cyZ cyT   a2 z2 hz2) (va_cwS 1 hts gX2_run_J6_bitCount_0f7a4 rfl rfl rfl (by decide +kernel) ⟨Nat.le_of_ble_eq_true rfl, Nat.le_of_ble_eq_true rfl⟩) hK jP0 rfl rfl hl.1 (Nat.le_of_ble_eq_true rfl) dX2_run_21 ⟨Nat.le_of_ble_eq_true rfl, Nat.le_of_ble_eq_true rfl⟩) ?_
    clear hz2
    obtain ⟨z3, hz3, h⟩ := jb h
    have hk3 : ∀ (H : Heap) (locs : List Loc), va_P D vwCl (wS cyI qa (va_up vsr.1 1 z1, vsr.2) (-1 : Int64) ++ wH cyI qb vh) H → va_D A (wS cyI qa (va_up vsr.1 1 z1, vsr.2) (-1 : Int64) ++ wH cyI qb vh) → va_S A s.heap H locs → ∀ (ls : Array Slot), lv_has ls 3 [(0, .ref (qa 0)), (1, .ref (qb 0)), (2, .int a2)] → W p l e rm_X2_run s m args below meth c H locs 0 0 (MQ below (jQv D A (fun u : (Mo × Int64) => wS cyI qa u.1 u.2 ++ wH cyI qb vh) o) args s 0 0 A) (F0 m 32 ls [.int z3, .ref (qa 0)]) := by
      intro H locs hP hD hS ls hl
      obtain ⟨g5, h⟩ := jn h
      refine va_put (D := D) (ci := 2) (v := .int z3) (ty := .boolean) (C := RX2) (T := TX2) (N := 4) hx hb hts in_X2_run_X2 tyX2 tyX2_ok nmX2 hown hK.1 hP hD hS 0 rfl rfl 3 (by decide) (hts _ kw_X2_run_5) (fun _ h9 => h9) rfl (tyX2_ok 3 (by decide)) (jz_n g5) (jz_f g5) (Nat.le_of_ble_eq_true rfl) dX2_run_32 (fun H locs hP hD hS => ?_)
      have hP : va_P D vwCl (wS cyI qa (va_up vsr.1 1 z1, va_up vsr.2 0 z3) (-1 : Int64) ++ wH cyI qb vh) H := hP
      have hD : va_D A (wS cyI qa (va_up vsr.1 1 z1, va_up vsr.2 0 z3) (-1 : Int64) ++ wH cyI qb vh) := hD
      refine lv_aload_n hx hb dX2_run_35 rfl (lv_at hl 0 rfl) ?_
      refine lv_aload_n hx hb dX2_run_36 rfl (lv_at hl 1 rfl) ?_
      refine lv_iconst (v := (0 : Int32)) hx hb dX2_run_37 (by decide) ?_
      refine lv_lconst (v := (1 : Int64)) hx hb dX2_run_38 (by decide) ?_
      refine lv_iload_n hx hb dX2_run_39 rfl (lv_at hl 2 rfl) ?_
      obtain ⟨z6, hz6, h⟩ := jb h
      refine jgv (w1 := fun u : (Mo × Int64) => wS cyI qa u.1 u.2 ++ wH cyI qb vh) (wn := wS cyI qa z6.1 z6.2 ++ wH cyI qb vh) (jmS (As := [.ref (qa 0), .ref (qb 0), .int (0 : Int32), .long (1 : Int64), .int a2]) (rest := []) ⟨hx, hb, hml, hown, hts⟩ (c_X2_tryFrom l D cyI cyZ cyT N 7 qa qb H.size (0 : Int32) (1 : Int64) a2 (va_up vsr.1 1 z1, va_up vsr.2 0 z3) (-1 : Int64) vh z6 hz6) (va_cwS 5 hts gX2_run_X2_tryFrom rfl rfl rfl (by decide +kernel) ⟨Nat.le_of_ble_eq_true rfl, Nat.le_of_ble_eq_true rfl⟩) hK hP hD rfl rfl hl.1 (Nat.le_of_ble_eq_true rfl) dX2_run_40 ⟨Nat.le_of_ble_eq_true rfl, Nat.le_of_ble_eq_true rfl⟩) hP hD hS hA [0, 1, 2, 3, 4, 5, 6, 7, 8, 9, 10, 11] [] [0, 1, 2, 3, 4, 5, 6, 7, 8, 9, 10, 11] rfl rfl (by decide) (by decide) rfl (by decide) (fun H locs hP hD hS => ?_)
      clear hz6
      exact W.vret hx hb hr (fun t ht _ => ⟨⟨_, rfl, Option.some.inj h, by rw [ht]; exact hP, hD⟩, hS.F ht⟩) hS.2.2 dX2_run_43 hlocks
    clear h
    have h := hz3
    clear hz3
    refine lv_icmp_le (tgt := 31) hx hb dX2_run_24 (by decide) (fun c4 => ?_) (fun c4 => ?_)
    · have h := jt c4 h
      refine lv_iconst (v := (0 : Int32)) hx hb dX2_run_31 (by decide) ?_
      obtain rfl := Option.some.inj h
      exact hk3 H locs hP hD hS ls (lv_sub hl [0, 1, 2] rfl)
    · have h := jf c4 h
      refine lv_iconst (v := (1 : Int32)) hx hb dX2_run_27 (by decide) ?_
      refine lv_goto (tgt := 32) hx hb dX2_run_28 (by decide) ?_
      obtain rfl := Option.some.inj h
      exact hk3 H locs hP hD hS ls (lv_sub hl [0, 1, 2] rfl)
  exact key s.heap [] hP hD hS
theorem kw_X3_add_1 : (.fieldLink RX3 18 "BellTheCat$Sightings" "size" "I" : Cond) ∈ wsX3_add := List.mem_of_getElem? (i := 1) rfl
theorem kw_X3_add_2 : (.fieldLink RX3 9 "BellTheCat$Sightings" "places" "[I" : Cond) ∈ wsX3_add := List.mem_of_getElem? (i := 2) rfl
theorem kw_X3_add_3 : (.fieldLink RX3 15 "BellTheCat$Sightings" "victims" "[I" : Cond) ∈ wsX3_add := List.mem_of_getElem? (i := 3) rfl
theorem in_X3_add_X3 : ∀ w ∈ wsX30, w ∈ wsX3_add := fun w h => List.mem_cons_of_mem _ (List.mem_append_right _ h)
abbrev rm_X3_add : Room := { frames := 0, cells := 0, slots := 0, locals := 0 }
set_option maxHeartbeats 4000000 in
set_option maxRecDepth 100000 in
theorem c_X3_add (l : Launch) (D : va_G) (cyI cyZ cyT : ClassId) (qa : Nat → Nat) (sz : Nat) (a1 : Int32) (a2 : Int32) (vg : Mo) (o : (Int32 × Mo)) (hf : f_X3_add a1 a2 vg = some o) : Met l yX3_add wsX3_add rm_X3_add (va_Pc [.ref (qa 0), .int a1, .int a2] (jM D cyI cyZ cyT (wG cyI qa vg) sz)) (jQi D (va_A (wG cyI qa vg) sz) (fun u : Mo => wG cyI qa u) o) 0 0 (va_A (wG cyI qa vg) sz) := by
  refine Met.ofW (cc := cX3_add) (maxL := 3) (ret := (some .boolean)) (by decide) rfl ?_
  intro p e s m args below meth c s₁ B hml hv
  obtain ⟨rfl, hsz, hP, hK, hD0⟩ := hv
  have hx := B.exec
  have hb := B.bytes
  have hr := B.returns
  have hts := atoms_spec (ws := wsX3_add) B.pre
  have hown : s.vm.findClass RX3 = some m.cls := findClass_of_methodNamed B.named
  have hlocks := B.notSynchronized
  subst hsz
  have hD := hD0.self (sz := s.heap.size)
  generalize hAe : va_A (wG cyI qa vg) s.heap.size = A at hD ⊢
  have hA : ∀ q : Nat, s.heap.size ≤ q → A q := fun q h => by rw [← hAe]; exact Or.inr h
  have hS : va_S A s.heap s.heap [] := va_S.rf
  have hl := lv_entry ([.ref (qa 0), .int a1, .int a2]) (n := 3) (Nat.le_of_ble_eq_true rfl)
  rw [lg_entry_eq]
  generalize (lg_sl ([.ref (qa 0), .int a1, .int a2]) ++ List.replicate (3 - (lg_sl ([.ref (qa 0), .int a1, .int a2])).length) Slot.unset).toArray = ls at hl ⊢
  have hl : lv_has ls 3 [(0, .ref (qa 0)), (1, .int a1), (2, .int a2)] := hl
  clear B
  generalize ([.ref (qa 0), .int a1, .int a2] : List Value).toArray = args at hts ⊢
  have key : ∀ (H : Heap) (locs : List Loc), va_P D vwCl (wG cyI qa vg) H → va_D A (wG cyI qa vg) → va_S A s.heap H locs → W p l e rm_X3_add s m args below meth c H locs 0 0 (MQ below (jQi D A (fun u : Mo => wG cyI qa u) o) args s 0 0 A) (F0 m 0 ls []) := by
    intro H locs hP hD hS
    have h := hf
    unfold f_X3_add at h
    refine lv_aload_n hx hb dX3_add_0 rfl (lv_at hl 0 rfl) ?_
    refine va_get (D := D) (ci := 3) (v := .int (vg.2 0)) (C := RX3) (T := TX3) (N := 3) hx hb hts in_X3_add_X3 hown hK.1 hP 0 rfl rfl 2 (by decide) (hts _ kw_X3_add_1) (fun _ h9 => h9) rfl dX3_add_1 ?_
    refine lv_if_lt (tgt := 16) hx hb dX3_add_4 (by decide) (fun c1 => ?_) (fun c1 => ?_)
    · have h := jt c1 h
      refine lv_iconst (v := (0 : Int32)) hx hb dX3_add_16 (by decide) ?_
      exact W.zret hx hb hr rfl (fun t ht _ => ⟨⟨_, _, rfl, Option.some.inj h, by rw [ht]; exact hP, hD⟩, hS.F ht⟩) hS.2.2 dX3_add_17 hlocks
    · have h := jf c1 h
      refine lv_aload_n hx hb dX3_add_7 rfl (lv_at hl 0 rfl) ?_
      refine va_get (D := D) (ci := 3) (v := .int (vg.2 0)) (C := RX3) (T := TX3) (N := 3) hx hb hts in_X3_add_X3 hown hK.1 hP 0 rfl rfl 2 (by decide) (hts _ kw_X3_add_1) (fun _ h9 => h9) rfl dX3_add_8 ?_
      refine lv_bipush (v := (6 : Int32)) hx hb dX3_add_11 (by decide) ?_
      refine lv_icmp_lt (tgt := 18) hx hb dX3_add_13 (by decide) (fun c2 => ?_) (fun c2 => ?_)
      · have h := jt c2 h
        refine lv_aload_n hx hb dX3_add_18 rfl (lv_at hl 0 rfl) ?_
        refine va_get (D := D) (ci := 3) (v := .ref (qa 1)) (C := RX3) (T := TX3) (N := 3) hx hb hts in_X3_add_X3 hown hK.1 hP 0 rfl rfl 0 (by decide) (hts _ kw_X3_add_2) (fun _ h9 => h9) rfl dX3_add_19 ?_
        refine lv_aload_n hx hb dX3_add_22 rfl (lv_at hl 0 rfl) ?_
        refine va_get (D := D) (ci := 3) (v := .int (vg.2 0)) (C := RX3) (T := TX3) (N := 3) hx hb hts in_X3_add_X3 hown hK.1 hP 0 rfl rfl 2 (by decide) (hts _ kw_X3_add_1) (fun _ h9 => h9) rfl dX3_add_23 ?_
        refine lv_iload_n hx hb dX3_add_26 rfl (lv_at hl 1 rfl) ?_
        obtain ⟨g3, h⟩ := jn h
        refine jast (w' := wG cyI qa (va_up vg.1 0 (upd (vg.1 0) (vg.2 0).toNatClampNeg a1), vg.2)) hx hb hK hP hD hS 1 rfl _ rfl g3 rfl dX3_add_27 (fun H locs hP hD hS => ?_)
        refine lv_aload_n hx hb dX3_add_28 rfl (lv_at hl 0 rfl) ?_
        refine va_get (D := D) (ci := 3) (v := .ref (qa 2)) (C := RX3) (T := TX3) (N := 3) hx hb hts in_X3_add_X3 hown hK.1 hP 0 rfl rfl 1 (by decide) (hts _ kw_X3_add_3) (fun _ h9 => h9) rfl dX3_add_29 ?_
        refine lv_aload_n hx hb dX3_add_32 rfl (lv_at hl 0 rfl) ?_
        refine va_get (D := D) (ci := 3) (v := .int (vg.2 0)) (C := RX3) (T := TX3) (N := 3) hx hb hts in_X3_add_X3 hown hK.1 hP 0 rfl rfl 2 (by decide) (hts _ kw_X3_add_1) (fun _ h9 => h9) rfl dX3_add_33 ?_
        refine lv_iload_n hx hb dX3_add_36 rfl (lv_at hl 2 rfl) ?_
        obtain ⟨g4, h⟩ := jn h
        refine jast (w' := wG cyI qa (va_up (va_up vg.1 0 (upd (vg.1 0) (vg.2 0).toNatClampNeg a1)) 1 (upd (vg.1 1) (vg.2 0).toNatClampNeg a2), vg.2)) hx hb hK hP hD hS 2 rfl _ rfl g4 rfl dX3_add_37 (fun H locs hP hD hS => ?_)
        refine lv_aload_n hx hb dX3_add_38 rfl (lv_at hl 0 rfl) ?_
        refine lv_dup hx hb dX3_add_39 rfl ?_
        refine va_get (D := D) (ci := 3) (v := .int (vg.2 0)) (C := RX3) (T := TX3) (N := 3) hx hb hts in_X3_add_X3 hown hK.1 hP 0 rfl rfl 2 (by decide) (hts _ kw_X3_add_1) (fun _ h9 => h9) rfl dX3_add_40 ?_
        refine lv_iconst (v := (1 : Int32)) hx hb dX3_add_43 (by decide) ?_
        refine lv_iadd hx hb dX3_add_44 ?_
        refine va_put (D := D) (ci := 3) (v := .int ((vg.2 0) + (1 : Int32))) (ty := .int) (C := RX3) (T := TX3) (N := 3) hx hb hts in_X3_add_X3 tyX3 tyX3_ok nmX3 hown hK.1 hP hD hS 0 rfl rfl 2 (by decide) (hts _ kw_X3_add_1) (fun _ h9 => h9) rfl (tyX3_ok 2 (by decide)) rfl rfl (Nat.le_of_ble_eq_true rfl) dX3_add_45 (fun H locs hP hD hS => ?_)
        have hP : va_P D vwCl (wG cyI qa (va_up (va_up vg.1 0 (upd (vg.1 0) (vg.2 0).toNatClampNeg a1)) 1 (upd (vg.1 1) (vg.2 0).toNatClampNeg a2), va_up vg.2 0 ((vg.2 0) + (1 : Int32)))) H := hP
        have hD : va_D A (wG cyI qa (va_up (va_up vg.1 0 (upd (vg.1 0) (vg.2 0).toNatClampNeg a1)) 1 (upd (vg.1 1) (vg.2 0).toNatClampNeg a2), va_up vg.2 0 ((vg.2 0) + (1 : Int32)))) := hD
        refine lv_iconst (v := (1 : Int32)) hx hb dX3_add_48 (by decide) ?_
        exact W.zret hx hb hr rfl (fun t ht _ => ⟨⟨_, _, rfl, Option.some.inj h, by rw [ht]; exact hP, hD⟩, hS.F ht⟩) hS.2.2 dX3_add_49 hlocks
      · have h := jf c2 h
        refine lv_iconst (v := (0 : Int32)) hx hb dX3_add_16 (by decide) ?_
        exact W.zret hx hb hr rfl (fun t ht _ => ⟨⟨_, _, rfl, Option.some.inj h, by rw [ht]; exact hP, hD⟩, hS.F ht⟩) hS.2.2 dX3_add_17 hlocks
  exact key s.heap [] hP hD hS
theorem kw_X3_isPossible_1 : (.fieldLink RX3 18 "BellTheCat$Sightings" "size" "I" : Cond) ∈ wsX3_isPossible := List.mem_of_getElem? (i := 1) rfl
theorem kw_X3_isPossible_2 : (.fieldLink RX3 9 "BellTheCat$Sightings" "places" "[I" : Cond) ∈ wsX3_isPossible := List.mem_of_getElem? (i := 2) rfl
theorem kw_X3_isPossible_3 : (.fieldLink RX3 15 "BellTheCat$Sightings" "victims" "[I" : Cond) ∈ wsX3_isPossible := List.mem_of_getElem? (i := 3) rfl
theorem in_X3_isPossible_X3 : ∀ w ∈ wsX30, w ∈ wsX3_isPossible := fun w h => List.mem_cons_of_mem _ (List.mem_append_right _ h)
abbrev rm_X3_isPossible : Room := { frames := 0, cells := 0, slots := 0, locals := 0 }
set_option maxHeartbeats 4000000 in
set_option maxRecDepth 100000 in
theorem c_X3_isPossible (l : Launch) (D : va_G) (cyI cyZ cyT : ClassId) (qa : Nat → Nat) (N : Nat) (a1 : Int32) (a2 : Int32) (a3 : Int32) (vg : Mo) (o : Int32) (hf : f_X3_isPossible N a1 a2 a3 vg = some o) : Met l yX3_isPossible wsX3_isPossible rm_X3_isPossible (va_Pc [.ref (qa 0), .int a1, .int a2, .int a3] (jB D cyI cyZ cyT (wG cyI qa vg))) (jSi o) 0 0 (fun _ => False) := by
  refine Met.ofW (cc := cX3_isPossible) (maxL := 5) (ret := (some .boolean)) (by decide) rfl ?_
  intro p e s m args below meth c s₁ B hml hv
  obtain ⟨rfl, hP, hK⟩ := hv
  have hx := B.exec
  have hb := B.bytes
  have hr := B.returns
  have hts := atoms_spec (ws := wsX3_isPossible) B.pre
  have hown : s.vm.findClass RX3 = some m.cls := findClass_of_methodNamed B.named
  have hlocks := B.notSynchronized
  have hl := lv_entry ([.ref (qa 0), .int a1, .int a2, .int a3]) (n := 5) (Nat.le_of_ble_eq_true rfl)
  rw [lg_entry_eq]
  generalize (lg_sl ([.ref (qa 0), .int a1, .int a2, .int a3]) ++ List.replicate (5 - (lg_sl ([.ref (qa 0), .int a1, .int a2, .int a3])).length) Slot.unset).toArray = ls at hl ⊢
  have hl : lv_has ls 5 [(0, .ref (qa 0)), (1, .int a1), (2, .int a2), (3, .int a3)] := hl
  clear B
  generalize ([.ref (qa 0), .int a1, .int a2, .int a3] : List Value).toArray = args at hts ⊢
  have key : ∀ (H : Heap), va_P D vwCl (wG cyI qa vg) H → H = s.heap → W p l e rm_X3_isPossible s m args below meth c H [] 0 0 (MQ below (jSi o) args s 0 0 (fun _ => False)) (F0 m 0 ls []) := by
    intro H hP hH
    have h := hf
    unfold f_X3_isPossible at h
    refine lv_iconst (v := (0 : Int32)) hx hb dX3_isPossible_0 (by decide) ?_
    refine lv_istore (lv' := [(4, .int (0 : Int32)), (0, .ref (qa 0)), (1, .int a1), (2, .int a2), (3, .int a3)]) hx hb dX3_isPossible_1 hl (by decide) rfl (fun ls hl => ?_)
    obtain ⟨r1, hz1, h1_⟩ := jb h
    have hex1 : ∀ e1 : Unit, r1 = .inl e1 → ∀ (ls : Array Slot), lv_has ls 5 [] → W p l e rm_X3_isPossible s m args below meth c H [] 0 0 (MQ below (jSi o) args s 0 0 (fun _ => False)) (F0 m 72 ls []) := by
      intro e1 he ls hl
      have h := jsl h1_ he
      clear hz1
      refine lv_iconst (v := (1 : Int32)) hx hb dX3_isPossible_72 (by decide) ?_
      exact W.zret hx hb hr rfl (fun t ht _ => ⟨_, rfl, Option.some.inj h, ht.trans hH⟩) (fun q h => by cases h) dX3_isPossible_73 hlocks
    have hlp1 : ∀ (nn : Nat) (z1 : Int32), jw (X3_isPossible_s3 a1 a2 a3 vg) nn z1 = some r1 → ∀ (ls : Array Slot), lv_has ls 5 [(0, .ref (qa 0)), (1, .int a1), (2, .int a2), (3, .int a3), (4, .int z1)] → W p l e rm_X3_isPossible s m args below meth c H [] 0 0 (MQ below (jSi o) args s 0 0 (fun _ => False)) (F0 m 3 ls []) := by
      refine jw_P (r := r1) (P := fun z1 : Int32 => ∀ (ls : Array Slot), lv_has ls 5 [(0, .ref (qa 0)), (1, .int a1), (2, .int a2), (3, .int a3), (4, .int z1)] → W p l e rm_X3_isPossible s m args below meth c H [] 0 0 (MQ below (jSi o) args s 0 0 (fun _ => False)) (F0 m 3 ls [])) ?_
      intro z1 x1 h hin hout ls hl
      unfold X3_isPossible_s3 at h
      refine lv_iload hx hb dX3_isPossible_3 (lv_at hl 4 rfl) ?_
      refine lv_aload_n hx hb dX3_isPossible_5 rfl (lv_at hl 0 rfl) ?_
      refine va_get (D := D) (ci := 3) (v := .int (vg.2 0)) (C := RX3) (T := TX3) (N := 3) hx hb hts in_X3_isPossible_X3 hown hK.1 hP 0 rfl rfl 2 (by decide) (hts _ kw_X3_isPossible_1) (fun _ h9 => h9) rfl dX3_isPossible_6 ?_
      refine lv_icmp_ge (tgt := 72) hx hb dX3_isPossible_9 (by decide) (fun c2 => ?_) (fun c2 => ?_)
      · have h := jt c2 h
        exact hex1 _ (hout _ (Option.some.inj h).symm).symm ls (lv_sub hl [] rfl)
      · have h := jf c2 h
        refine lv_iload hx hb dX3_isPossible_12 (lv_at hl 4 rfl) ?_
        refine lv_bipush (v := (6 : Int32)) hx hb dX3_isPossible_14 (by decide) ?_
        refine lv_icmp_ge (tgt := 72) hx hb dX3_isPossible_16 (by decide) (fun c3 => ?_) (fun c3 => ?_)
        · have h := jt c3 h
          exact hex1 _ (hout _ (Option.some.inj h).symm).symm ls (lv_sub hl [] rfl)
        · have h := jf c3 h
          refine lv_aload_n hx hb dX3_isPossible_19 rfl (lv_at hl 0 rfl) ?_
          refine va_get (D := D) (ci := 3) (v := .ref (qa 1)) (C := RX3) (T := TX3) (N := 3) hx hb hts in_X3_isPossible_X3 hown hK.1 hP 0 rfl rfl 0 (by decide) (hts _ kw_X3_isPossible_2) (fun _ h9 => h9) rfl dX3_isPossible_20 ?_
          refine lv_iload hx hb dX3_isPossible_23 (lv_at hl 4 rfl) ?_
          obtain ⟨g4, h⟩ := jn h
          refine jald hx hb hK hP 1 rfl _ rfl g4 dX3_isPossible_25 ?_
          refine lv_iload_n hx hb dX3_isPossible_26 rfl (lv_at hl 1 rfl) ?_
          refine lv_icmp_ne (tgt := 47) hx hb dX3_isPossible_27 (by decide) (fun c5 => ?_) (fun c5 => ?_)
          · have h := jf c5 h
            refine lv_aload_n hx hb dX3_isPossible_47 rfl (lv_at hl 0 rfl) ?_
            refine va_get (D := D) (ci := 3) (v := .ref (qa 1)) (C := RX3) (T := TX3) (N := 3) hx hb hts in_X3_isPossible_X3 hown hK.1 hP 0 rfl rfl 0 (by decide) (hts _ kw_X3_isPossible_2) (fun _ h9 => h9) rfl dX3_isPossible_48 ?_
            refine lv_iload hx hb dX3_isPossible_51 (lv_at hl 4 rfl) ?_
            obtain ⟨g6, h⟩ := jn h
            refine jald hx hb hK hP 1 rfl _ rfl g6 dX3_isPossible_53 ?_
            refine lv_iload_n hx hb dX3_isPossible_54 rfl (lv_at hl 1 rfl) ?_
            refine lv_icmp_le (tgt := 66) hx hb dX3_isPossible_55 (by decide) (fun c7 => ?_) (fun c7 => ?_)
            · have h := jt c7 h
              refine lv_iinc (v := z1 + (1 : Int32)) (lv' := [(4, .int (z1 + (1 : Int32))), (0, .ref (qa 0)), (1, .int a1), (2, .int a2), (3, .int a3)]) hx hb dX3_isPossible_66 hl (k := 4) rfl rfl (by decide) rfl (fun ls hl => ?_)
              refine lv_goto (tgt := 3) hx hb dX3_isPossible_69 (by decide) ?_
              exact hin _ (Option.some.inj h).symm ls (lv_sub hl [1, 2, 3, 4, 0] rfl)
            · have h := jf c7 h
              refine lv_iload_n hx hb dX3_isPossible_58 rfl (lv_at hl 3 rfl) ?_
              refine lv_bipush (v := (10 : Int32)) hx hb dX3_isPossible_59 (by decide) ?_
              refine lv_icmp_lt (tgt := 66) hx hb dX3_isPossible_61 (by decide) (fun c8 => ?_) (fun c8 => ?_)
              · have h := jt c8 h
                refine lv_iinc (v := z1 + (1 : Int32)) (lv' := [(4, .int (z1 + (1 : Int32))), (0, .ref (qa 0)), (1, .int a1), (2, .int a2), (3, .int a3)]) hx hb dX3_isPossible_66 hl (k := 4) rfl rfl (by decide) rfl (fun ls hl => ?_)
                refine lv_goto (tgt := 3) hx hb dX3_isPossible_69 (by decide) ?_
                exact hin _ (Option.some.inj h).symm ls (lv_sub hl [1, 2, 3, 4, 0] rfl)
              · have h := jf c8 h
                refine lv_iconst (v := (0 : Int32)) hx hb dX3_isPossible_64 (by decide) ?_
                have h := jsr h1_ (hout _ (Option.some.inj h).symm).symm
                exact W.zret hx hb hr rfl (fun t ht _ => ⟨_, rfl, Option.some.inj h, ht.trans hH⟩) (fun q h => by cases h) dX3_isPossible_65 hlocks
          · have h := jt c5 h
            refine lv_aload_n hx hb dX3_isPossible_30 rfl (lv_at hl 0 rfl) ?_
            refine va_get (D := D) (ci := 3) (v := .ref (qa 2)) (C := RX3) (T := TX3) (N := 3) hx hb hts in_X3_isPossible_X3 hown hK.1 hP 0 rfl rfl 1 (by decide) (hts _ kw_X3_isPossible_3) (fun _ h9 => h9) rfl dX3_isPossible_31 ?_
            refine lv_iload hx hb dX3_isPossible_34 (lv_at hl 4 rfl) ?_
            obtain ⟨g9, h⟩ := jn h
            refine jald hx hb hK hP 2 rfl _ rfl g9 dX3_isPossible_36 ?_
            refine lv_iload_n hx hb dX3_isPossible_37 rfl (lv_at hl 2 rfl) ?_
            refine lv_icmp_ne (tgt := 45) hx hb dX3_isPossible_38 (by decide) (fun c10 => ?_) (fun c10 => ?_)
            · have h := jf c10 h
              refine lv_iconst (v := (0 : Int32)) hx hb dX3_isPossible_45 (by decide) ?_
              have h := jsr h1_ (hout _ (Option.some.inj h).symm).symm
              exact W.zret hx hb hr rfl (fun t ht _ => ⟨_, rfl, Option.some.inj h, ht.trans hH⟩) (fun q h => by cases h) dX3_isPossible_46 hlocks
            · have h := jt c10 h
              refine lv_iload_n hx hb dX3_isPossible_41 rfl (lv_at hl 3 rfl) ?_
              refine lv_if_ne (tgt := 47) hx hb dX3_isPossible_42 (by decide) (fun c11 => ?_) (fun c11 => ?_)
              · have h := jf c11 h
                refine lv_aload_n hx hb dX3_isPossible_47 rfl (lv_at hl 0 rfl) ?_
                refine va_get (D := D) (ci := 3) (v := .ref (qa 1)) (C := RX3) (T := TX3) (N := 3) hx hb hts in_X3_isPossible_X3 hown hK.1 hP 0 rfl rfl 0 (by decide) (hts _ kw_X3_isPossible_2) (fun _ h9 => h9) rfl dX3_isPossible_48 ?_
                refine lv_iload hx hb dX3_isPossible_51 (lv_at hl 4 rfl) ?_
                obtain ⟨g12, h⟩ := jn h
                refine jald hx hb hK hP 1 rfl _ rfl g12 dX3_isPossible_53 ?_
                refine lv_iload_n hx hb dX3_isPossible_54 rfl (lv_at hl 1 rfl) ?_
                refine lv_icmp_le (tgt := 66) hx hb dX3_isPossible_55 (by decide) (fun c13 => ?_) (fun c13 => ?_)
                · have h := jt c13 h
                  refine lv_iinc (v := z1 + (1 : Int32)) (lv' := [(4, .int (z1 + (1 : Int32))), (0, .ref (qa 0)), (1, .int a1), (2, .int a2), (3, .int a3)]) hx hb dX3_isPossible_66 hl (k := 4) rfl rfl (by decide) rfl (fun ls hl => ?_)
                  refine lv_goto (tgt := 3) hx hb dX3_isPossible_69 (by decide) ?_
                  exact hin _ (Option.some.inj h).symm ls (lv_sub hl [1, 2, 3, 4, 0] rfl)
                · have h := jf c13 h
                  refine lv_iload_n hx hb dX3_isPossible_58 rfl (lv_at hl 3 rfl) ?_
                  refine lv_bipush (v := (10 : Int32)) hx hb dX3_isPossible_59 (by decide) ?_
                  refine lv_icmp_lt (tgt := 66) hx hb dX3_isPossible_61 (by decide) (fun c14 => ?_) (fun c14 => ?_)
                  · have h := jt c14 h
                    refine lv_iinc (v := z1 + (1 : Int32)) (lv' := [(4, .int (z1 + (1 : Int32))), (0, .ref (qa 0)), (1, .int a1), (2, .int a2), (3, .int a3)]) hx hb dX3_isPossible_66 hl (k := 4) rfl rfl (by decide) rfl (fun ls hl => ?_)
                    refine lv_goto (tgt := 3) hx hb dX3_isPossible_69 (by decide) ?_
                    exact hin _ (Option.some.inj h).symm ls (lv_sub hl [1, 2, 3, 4, 0] rfl)
                  · have h := jf c14 h
                    refine lv_iconst (v := (0 : Int32)) hx hb dX3_isPossible_64 (by decide) ?_
                    have h := jsr h1_ (hout _ (Option.some.inj h).symm).symm
                    exact W.zret hx hb hr rfl (fun t ht _ => ⟨_, rfl, Option.some.inj h, ht.trans hH⟩) (fun q h => by cases h) dX3_isPossible_65 hlocks
              · have h := jt c11 h
                refine lv_iconst (v := (0 : Int32)) hx hb dX3_isPossible_45 (by decide) ?_
                have h := jsr h1_ (hout _ (Option.some.inj h).symm).symm
                exact W.zret hx hb hr rfl (fun t ht _ => ⟨_, rfl, Option.some.inj h, ht.trans hH⟩) (fun q h => by cases h) dX3_isPossible_46 hlocks
    exact hlp1 _ _ hz1 ls (lv_sub hl [1, 2, 3, 4, 0] rfl)
  exact key s.heap hP rfl
theorem kw_X3_possibleAt_1 : (.fieldLink RX3 22 "BellTheCat$House" "miceCount" "I" : Cond) ∈ wsX3_possibleAt := List.mem_of_getElem? (i := 1) rfl
theorem in_X3_possibleAt_X0 : ∀ w ∈ wsX00, w ∈ wsX3_possibleAt := fun w h => List.mem_cons_of_mem _ (List.mem_append_left _ (List.mem_append_right _ h))
abbrev rm_X3_possibleAt : Room := { frames := 3, cells := 0, slots := 0, locals := 109 }
set_option maxHeartbeats 4000000 in
set_option maxRecDepth 100000 in
theorem c_X3_possibleAt (l : Launch) (D : va_G) (cyI cyZ cyT : ClassId) (qa qb : Nat → Nat) (N : Nat) (a2 : Int32) (vg : Mo) (vh : Mo) (o : Int32) (hf : f_X3_possibleAt N a2 vg vh = some o) : Met l yX3_possibleAt wsX3_possibleAt rm_X3_possibleAt (va_Pc [.ref (qa 0), .ref (qb 0), .int a2] (jB D cyI cyZ cyT (wG cyI qa vg ++ wH cyI qb vh))) (jSi o) 0 0 (fun _ => False) := by
  refine Met.ofW (cc := cX3_possibleAt) (maxL := 5) (ret := (some .int)) (by decide) rfl ?_
  intro p e s m args below meth c s₁ B hml hv
  obtain ⟨rfl, hP, hK⟩ := hv
  have hx := B.exec
  have hb := B.bytes
  have hr := B.returns
  have hts := atoms_spec (ws := wsX3_possibleAt) B.pre
  have hown : s.vm.findClass RX3 = some m.cls := findClass_of_methodNamed B.named
  have hlocks := B.notSynchronized
  have hl := lv_entry ([.ref (qa 0), .ref (qb 0), .int a2]) (n := 5) (Nat.le_of_ble_eq_true rfl)
  rw [lg_entry_eq]
  generalize (lg_sl ([.ref (qa 0), .ref (qb 0), .int a2]) ++ List.replicate (5 - (lg_sl ([.ref (qa 0), .ref (qb 0), .int a2])).length) Slot.unset).toArray = ls at hl ⊢
  have hl : lv_has ls 5 [(0, .ref (qa 0)), (1, .ref (qb 0)), (2, .int a2)] := hl
  clear B
  generalize ([.ref (qa 0), .ref (qb 0), .int a2] : List Value).toArray = args at hts ⊢
  have key : ∀ (H : Heap), va_P D vwCl (wG cyI qa vg ++ wH cyI qb vh) H → H = s.heap → W p l e rm_X3_possibleAt s m args below meth c H [] 0 0 (MQ below (jSi o) args s 0 0 (fun _ => False)) (F0 m 0 ls []) := by
    intro H hP hH
    have h := hf
    unfold f_X3_possibleAt at h
    refine lv_iconst (v := (0 : Int32)) hx hb dX3_possibleAt_0 (by decide) ?_
    refine lv_istore_n (lv' := [(3, .int (0 : Int32)), (0, .ref (qa 0)), (1, .ref (qb 0)), (2, .int a2)]) hx hb dX3_possibleAt_1 rfl hl (by decide) rfl (fun ls hl => ?_)
    refine lv_iconst (v := (0 : Int32)) hx hb dX3_possibleAt_2 (by decide) ?_
    refine lv_istore (lv' := [(4, .int (0 : Int32)), (3, .int (0 : Int32)), (0, .ref (qa 0)), (1, .ref (qb 0)), (2, .int a2)]) hx hb dX3_possibleAt_3 hl (by decide) rfl (fun ls hl => ?_)
    obtain ⟨r1, hz1, h1_⟩ := jb h
    have hex1 : ∀ e1 : Int32, r1 = e1 → ∀ (ls : Array Slot), lv_has ls 5 [(3, .int e1)] → W p l e rm_X3_possibleAt s m args below meth c H [] 0 0 (MQ below (jSi o) args s 0 0 (fun _ => False)) (F0 m 48 ls []) := by
      intro e1 he ls hl
      rw [he] at h1_
      have h := h1_
      clear hz1
      refine lv_iload_n hx hb dX3_possibleAt_48 rfl (lv_at hl 0 rfl) ?_
      exact W.iret hx hb hr (fun t ht _ => ⟨_, rfl, Option.some.inj h, ht.trans hH⟩) (fun q h => by cases h) dX3_possibleAt_49 hlocks
    have hlp1 : ∀ (nn : Nat) (z1 : (Int32 × Int32)), jw (X3_possibleAt_s5 N a2 vg vh) nn z1 = some r1 → ∀ (ls : Array Slot), lv_has ls 5 [(0, .ref (qa 0)), (1, .ref (qb 0)), (2, .int a2), (3, .int z1.1), (4, .int z1.2)] → W p l e rm_X3_possibleAt s m args below meth c H [] 0 0 (MQ below (jSi o) args s 0 0 (fun _ => False)) (F0 m 5 ls []) := by
      refine jw_P (r := r1) (P := fun z1 : (Int32 × Int32) => ∀ (ls : Array Slot), lv_has ls 5 [(0, .ref (qa 0)), (1, .ref (qb 0)), (2, .int a2), (3, .int z1.1), (4, .int z1.2)] → W p l e rm_X3_possibleAt s m args below meth c H [] 0 0 (MQ below (jSi o) args s 0 0 (fun _ => False)) (F0 m 5 ls [])) ?_
      intro z1 x1 h hin hout ls hl
      unfold X3_possibleAt_s5 at h
      refine lv_iload hx hb dX3_possibleAt_5 (lv_at hl 4 rfl) ?_
      refine lv_aload_n hx hb dX3_possibleAt_7 rfl (lv_at hl 1 rfl) ?_
      refine va_get (D := D) (ci := 0) (v := .int (vh.2 0)) (C := RX0) (T := TX0) (N := 12) hx hb hts in_X3_possibleAt_X0 hown hK.1 hP 3 rfl rfl 8 (by decide) (hts _ kw_X3_possibleAt_1) (fun _ h9 => h9) rfl dX3_possibleAt_8 ?_
      refine lv_icmp_ge (tgt := 48) hx hb dX3_possibleAt_11 (by decide) (fun c2 => ?_) (fun c2 => ?_)
      · have h := jt c2 h
        exact hex1 _ (hout _ (Option.some.inj h).symm).symm ls (lv_sub hl [3] rfl)
      · have h := jf c2 h
        refine lv_iload_n hx hb dX3_possibleAt_14 rfl (lv_at hl 3 rfl) ?_
        refine lv_aload_n hx hb dX3_possibleAt_15 rfl (lv_at hl 0 rfl) ?_
        refine lv_iload_n hx hb dX3_possibleAt_16 rfl (lv_at hl 2 rfl) ?_
        refine lv_iload hx hb dX3_possibleAt_17 (lv_at hl 4 rfl) ?_
        refine lv_aload_n hx hb dX3_possibleAt_19 rfl (lv_at hl 1 rfl) ?_
        refine lv_iload_n hx hb dX3_possibleAt_20 rfl (lv_at hl 2 rfl) ?_
        refine lv_iload hx hb dX3_possibleAt_21 (lv_at hl 4 rfl) ?_
        obtain ⟨z3, hz3, h⟩ := jb h
        refine jki (jrV (As := [.int a2, .int z1.2]) (rest := [.int z1.2, .int a2, .ref (qa 0), .int z1.1]) ⟨hx, hb, hml, hown, hts⟩ (c_X0_dangerAt l D cyI cyZ cyT qb  a2 z1.2 vh z3 hz3) (cwV 2 hts gX3_possibleAt_X0_dangerAt rfl rfl rfl (by decide +kernel) ⟨Nat.le_of_ble_eq_true rfl, Nat.le_of_ble_eq_true rfl⟩) hK (hP.sub (ws' := wH cyI qb vh) [3, 4, 5, 6, 7, 8, 9, 10, 11] rfl) rfl 0 0 rfl rfl rfl hl.1 (Nat.le_of_ble_eq_true rfl) dX3_possibleAt_23 ⟨Nat.le_of_ble_eq_true rfl, Nat.le_of_ble_eq_true rfl⟩) ?_
        clear hz3
        obtain ⟨z4, hz4, h⟩ := jb h
        refine jki (jrV (As := [.int a2, .int z1.2, .int z3]) (rest := [.int z1.1]) ⟨hx, hb, hml, hown, hts⟩ (c_X3_isPossible l D cyI cyZ cyT qa  N a2 z1.2 z3 vg z4 hz4) (cwV 3 hts gX3_possibleAt_X3_isPossible rfl rfl rfl (by decide +kernel) ⟨Nat.le_of_ble_eq_true rfl, Nat.le_of_ble_eq_true rfl⟩) hK (hP.sub (ws' := wG cyI qa vg) [0, 1, 2] rfl) rfl 3 0 rfl rfl rfl hl.1 (Nat.le_of_ble_eq_true rfl) dX3_possibleAt_26 ⟨Nat.le_of_ble_eq_true rfl, Nat.le_of_ble_eq_true rfl⟩) ?_
        clear hz4
        obtain ⟨z5, hz5, h⟩ := jb h
        have hk5 : ∀ (ls : Array Slot), lv_has ls 5 [(0, .ref (qa 0)), (1, .ref (qb 0)), (2, .int a2), (4, .int z1.2)] → W p l e rm_X3_possibleAt s m args below meth c H [] 0 0 (MQ below (jSi o) args s 0 0 (fun _ => False)) (F0 m 40 ls [.int z5, .int z1.1]) := by
          intro ls hl
          refine lv_ior hx hb dX3_possibleAt_40 ?_
          refine lv_istore_n (lv' := [(3, .int (z1.1 ||| z5)), (0, .ref (qa 0)), (1, .ref (qb 0)), (2, .int a2), (4, .int z1.2)]) hx hb dX3_possibleAt_41 rfl hl (by decide) rfl (fun ls hl => ?_)
          refine lv_iinc (v := z1.2 + (1 : Int32)) (lv' := [(4, .int (z1.2 + (1 : Int32))), (3, .int (z1.1 ||| z5)), (0, .ref (qa 0)), (1, .ref (qb 0)), (2, .int a2)]) hx hb dX3_possibleAt_42 hl (k := 4) rfl rfl (by decide) rfl (fun ls hl => ?_)
          refine lv_goto (tgt := 5) hx hb dX3_possibleAt_45 (by decide) ?_
          exact hin _ (Option.some.inj h).symm ls (lv_sub hl [2, 3, 4, 1, 0] rfl)
        clear h
        have h := hz5
        clear hz5
        refine lv_if_eq (tgt := 39) hx hb dX3_possibleAt_29 (by decide) (fun c6 => ?_) (fun c6 => ?_)
        · have h := jt c6 h
          refine lv_iconst (v := (0 : Int32)) hx hb dX3_possibleAt_39 (by decide) ?_
          obtain rfl := Option.some.inj h
          exact hk5 ls (lv_sub hl [0, 1, 2, 4] rfl)
        · have h := jf c6 h
          refine lv_iconst (v := (1 : Int32)) hx hb dX3_possibleAt_32 (by decide) ?_
          refine lv_iload hx hb dX3_possibleAt_33 (lv_at hl 4 rfl) ?_
          refine lv_ishl hx hb dX3_possibleAt_35 ?_
          refine lv_goto (tgt := 40) hx hb dX3_possibleAt_36 (by decide) ?_
          obtain rfl := Option.some.inj h
          exact hk5 ls (lv_sub hl [0, 1, 2, 4] rfl)
    exact hlp1 _ _ hz1 ls (lv_sub hl [2, 3, 4, 1, 0] rfl)
  exact key s.heap hP rfl
theorem kw_X3_rowCount_1 : (.fieldLink RX3 35 "BellTheCat$House" "stepCount" "I" : Cond) ∈ wsX3_rowCount := List.mem_of_getElem? (i := 1) rfl
theorem in_X3_rowCount_X0 : ∀ w ∈ wsX00, w ∈ wsX3_rowCount := fun w h => List.mem_cons_of_mem _ (List.mem_append_left _ (List.mem_append_right _ h))
abbrev rm_X3_rowCount : Room := { frames := 4, cells := 0, slots := 0, locals := 133 }
set_option maxHeartbeats 4000000 in
set_option maxRecDepth 100000 in
theorem c_X3_rowCount (l : Launch) (D : va_G) (cyI cyZ cyT : ClassId) (qa qb : Nat → Nat) (N : Nat) (vg : Mo) (vh : Mo) (o : Int32) (hf : f_X3_rowCount N vg vh = some o) : Met l yX3_rowCount wsX3_rowCount rm_X3_rowCount (va_Pc [.ref (qa 0), .ref (qb 0)] (jB D cyI cyZ cyT (wG cyI qa vg ++ wH cyI qb vh))) (jSi o) 0 0 (fun _ => False) := by
  refine Met.ofW (cc := cX3_rowCount) (maxL := 4) (ret := (some .int)) (by decide) rfl ?_
  intro p e s m args below meth c s₁ B hml hv
  obtain ⟨rfl, hP, hK⟩ := hv
  have hx := B.exec
  have hb := B.bytes
  have hr := B.returns
  have hts := atoms_spec (ws := wsX3_rowCount) B.pre
  have hown : s.vm.findClass RX3 = some m.cls := findClass_of_methodNamed B.named
  have hlocks := B.notSynchronized
  have hl := lv_entry ([.ref (qa 0), .ref (qb 0)]) (n := 4) (Nat.le_of_ble_eq_true rfl)
  rw [lg_entry_eq]
  generalize (lg_sl ([.ref (qa 0), .ref (qb 0)]) ++ List.replicate (4 - (lg_sl ([.ref (qa 0), .ref (qb 0)])).length) Slot.unset).toArray = ls at hl ⊢
  have hl : lv_has ls 4 [(0, .ref (qa 0)), (1, .ref (qb 0))] := hl
  clear B
  generalize ([.ref (qa 0), .ref (qb 0)] : List Value).toArray = args at hts ⊢
  have key : ∀ (H : Heap), va_P D vwCl (wG cyI qa vg ++ wH cyI qb vh) H → H = s.heap → W p l e rm_X3_rowCount s m args below meth c H [] 0 0 (MQ below (jSi o) args s 0 0 (fun _ => False)) (F0 m 0 ls []) := by
    intro H hP hH
    have h := hf
    unfold f_X3_rowCount at h
    refine lv_iconst (v := (1 : Int32)) hx hb dX3_rowCount_0 (by decide) ?_
    refine lv_istore_n (lv' := [(2, .int (1 : Int32)), (0, .ref (qa 0)), (1, .ref (qb 0))]) hx hb dX3_rowCount_1 rfl hl (by decide) rfl (fun ls hl => ?_)
    refine lv_iconst (v := (0 : Int32)) hx hb dX3_rowCount_2 (by decide) ?_
    refine lv_istore_n (lv' := [(3, .int (0 : Int32)), (2, .int (1 : Int32)), (0, .ref (qa 0)), (1, .ref (qb 0))]) hx hb dX3_rowCount_3 rfl hl (by decide) rfl (fun ls hl => ?_)
    obtain ⟨r1, hz1, h1_⟩ := jb h
    have hex1 : ∀ e1 : Int32, r1 = e1 → ∀ (ls : Array Slot), lv_has ls 4 [(2, .int e1)] → W p l e rm_X3_rowCount s m args below meth c H [] 0 0 (MQ below (jSi o) args s 0 0 (fun _ => False)) (F0 m 30 ls []) := by
      intro e1 he ls hl
      rw [he] at h1_
      have h := h1_
      clear hz1
      refine lv_iload_n hx hb dX3_rowCount_30 rfl (lv_at hl 0 rfl) ?_
      exact W.iret hx hb hr (fun t ht _ => ⟨_, rfl, Option.some.inj h, ht.trans hH⟩) (fun q h => by cases h) dX3_rowCount_31 hlocks
    have hlp1 : ∀ (nn : Nat) (z1 : (Int32 × Int32)), jw (X3_rowCount_s4 N vg vh) nn z1 = some r1 → ∀ (ls : Array Slot), lv_has ls 4 [(0, .ref (qa 0)), (1, .ref (qb 0)), (2, .int z1.1), (3, .int z1.2)] → W p l e rm_X3_rowCount s m args below meth c H [] 0 0 (MQ below (jSi o) args s 0 0 (fun _ => False)) (F0 m 4 ls []) := by
      refine jw_P (r := r1) (P := fun z1 : (Int32 × Int32) => ∀ (ls : Array Slot), lv_has ls 4 [(0, .ref (qa 0)), (1, .ref (qb 0)), (2, .int z1.1), (3, .int z1.2)] → W p l e rm_X3_rowCount s m args below meth c H [] 0 0 (MQ below (jSi o) args s 0 0 (fun _ => False)) (F0 m 4 ls [])) ?_
      intro z1 x1 h hin hout ls hl
      unfold X3_rowCount_s4 at h
      refine lv_iload_n hx hb dX3_rowCount_4 rfl (lv_at hl 3 rfl) ?_
      refine lv_aload_n hx hb dX3_rowCount_5 rfl (lv_at hl 1 rfl) ?_
      refine va_get (D := D) (ci := 0) (v := .int (vh.2 1)) (C := RX0) (T := TX0) (N := 12) hx hb hts in_X3_rowCount_X0 hown hK.1 hP 3 rfl rfl 9 (by decide) (hts _ kw_X3_rowCount_1) (fun _ h9 => h9) rfl dX3_rowCount_6 ?_
      refine lv_icmp_ge (tgt := 30) hx hb dX3_rowCount_9 (by decide) (fun c2 => ?_) (fun c2 => ?_)
      · have h := jt c2 h
        exact hex1 _ (hout _ (Option.some.inj h).symm).symm ls (lv_sub hl [2] rfl)
      · have h := jf c2 h
        refine lv_iload_n hx hb dX3_rowCount_12 rfl (lv_at hl 2 rfl) ?_
        refine lv_aload_n hx hb dX3_rowCount_13 rfl (lv_at hl 0 rfl) ?_
        refine lv_aload_n hx hb dX3_rowCount_14 rfl (lv_at hl 1 rfl) ?_
        refine lv_iload_n hx hb dX3_rowCount_15 rfl (lv_at hl 3 rfl) ?_
        obtain ⟨z3, hz3, h⟩ := jb h
        refine jki (jrV (As := [.ref (qb 0), .int z1.2]) (rest := [.int z1.1]) ⟨hx, hb, hml, hown, hts⟩ (c_X3_possibleAt l D cyI cyZ cyT qa qb  N z1.2 vg vh z3 hz3) (cwV 2 hts gX3_rowCount_X3_possibleAt rfl rfl rfl (by decide +kernel) ⟨Nat.le_of_ble_eq_true rfl, Nat.le_of_ble_eq_true rfl⟩) hK hP rfl 3 0 rfl rfl rfl hl.1 (Nat.le_of_ble_eq_true rfl) dX3_rowCount_16 ⟨Nat.le_of_ble_eq_true rfl, Nat.le_of_ble_eq_true rfl⟩) ?_
        clear hz3
        obtain ⟨z4, hz4, h⟩ := jb h
        refine jki (jrS (As := [.int z3]) (rest := [.int z1.1]) ⟨hx, hb, hml, hown, hts⟩ (c_J6_bitCount_0f7a4 l D cyI cyZ cyT   z3 z4 hz4) (va_cwS 1 hts gX3_rowCount_J6_bitCount_0f7a4 rfl rfl rfl (by decide +kernel) ⟨Nat.le_of_ble_eq_true rfl, Nat.le_of_ble_eq_true rfl⟩) hK jP0 rfl rfl hl.1 (Nat.le_of_ble_eq_true rfl) dX3_rowCount_19 ⟨Nat.le_of_ble_eq_true rfl, Nat.le_of_ble_eq_true rfl⟩) ?_
        clear hz4
        refine lv_imul hx hb dX3_rowCount_22 ?_
        refine lv_istore_n (lv' := [(2, .int (z1.1 * z4)), (0, .ref (qa 0)), (1, .ref (qb 0)), (3, .int z1.2)]) hx hb dX3_rowCount_23 rfl hl (by decide) rfl (fun ls hl => ?_)
        refine lv_iinc (v := z1.2 + (1 : Int32)) (lv' := [(3, .int (z1.2 + (1 : Int32))), (2, .int (z1.1 * z4)), (0, .ref (qa 0)), (1, .ref (qb 0))]) hx hb dX3_rowCount_24 hl (k := 3) rfl rfl (by decide) rfl (fun ls hl => ?_)
        refine lv_goto (tgt := 4) hx hb dX3_rowCount_27 (by decide) ?_
        exact hin _ (Option.some.inj h).symm ls (lv_sub hl [2, 3, 1, 0] rfl)
    exact hlp1 _ _ hz1 ls (lv_sub hl [2, 3, 1, 0] rfl)
  exact key s.heap hP rfl
theorem kw_X3_inAllRows_1 : (.fieldLink RX3 35 "BellTheCat$House" "stepCount" "I" : Cond) ∈ wsX3_inAllRows := List.mem_of_getElem? (i := 1) rfl
theorem in_X3_inAllRows_X0 : ∀ w ∈ wsX00, w ∈ wsX3_inAllRows := fun w h => List.mem_cons_of_mem _ (List.mem_append_left _ (List.mem_append_right _ h))
abbrev rm_X3_inAllRows : Room := { frames := 5, cells := 0, slots := 0, locals := 156 }
set_option maxHeartbeats 4000000 in
set_option maxRecDepth 100000 in
theorem c_X3_inAllRows (l : Launch) (D : va_G) (cyI cyZ cyT : ClassId) (qa qb : Nat → Nat) (N : Nat) (vg : Mo) (vh : Mo) (o : Int32) (hf : f_X3_inAllRows N vg vh = some o) : Met l yX3_inAllRows wsX3_inAllRows rm_X3_inAllRows (va_Pc [.ref (qa 0), .ref (qb 0)] (jB D cyI cyZ cyT (wG cyI qa vg ++ wH cyI qb vh))) (jSi o) 0 0 (fun _ => False) := by
  refine Met.ofW (cc := cX3_inAllRows) (maxL := 5) (ret := (some .int)) (by decide) rfl ?_
  intro p e s m args below meth c s₁ B hml hv
  obtain ⟨rfl, hP, hK⟩ := hv
  have hx := B.exec
  have hb := B.bytes
  have hr := B.returns
  have hts := atoms_spec (ws := wsX3_inAllRows) B.pre
  have hown : s.vm.findClass RX3 = some m.cls := findClass_of_methodNamed B.named
  have hlocks := B.notSynchronized
  have hl := lv_entry ([.ref (qa 0), .ref (qb 0)]) (n := 5) (Nat.le_of_ble_eq_true rfl)
  rw [lg_entry_eq]
  generalize (lg_sl ([.ref (qa 0), .ref (qb 0)]) ++ List.replicate (5 - (lg_sl ([.ref (qa 0), .ref (qb 0)])).length) Slot.unset).toArray = ls at hl ⊢
  have hl : lv_has ls 5 [(0, .ref (qa 0)), (1, .ref (qb 0))] := hl
  clear B
  generalize ([.ref (qa 0), .ref (qb 0)] : List Value).toArray = args at hts ⊢
  have key : ∀ (H : Heap), va_P D vwCl (wG cyI qa vg ++ wH cyI qb vh) H → H = s.heap → W p l e rm_X3_inAllRows s m args below meth c H [] 0 0 (MQ below (jSi o) args s 0 0 (fun _ => False)) (F0 m 0 ls []) := by
    intro H hP hH
    have h := hf
    unfold f_X3_inAllRows at h
    refine lv_aload_n hx hb dX3_inAllRows_0 rfl (lv_at hl 0 rfl) ?_
    refine lv_aload_n hx hb dX3_inAllRows_1 rfl (lv_at hl 1 rfl) ?_
    obtain ⟨z1, hz1, h⟩ := jb h
    refine jki (jrV (As := [.ref (qb 0)]) (rest := []) ⟨hx, hb, hml, hown, hts⟩ (c_X3_rowCount l D cyI cyZ cyT qa qb  N vg vh z1 hz1) (cwV 1 hts gX3_inAllRows_X3_rowCount rfl rfl rfl (by decide +kernel) ⟨Nat.le_of_ble_eq_true rfl, Nat.le_of_ble_eq_true rfl⟩) hK hP rfl 3 0 rfl rfl rfl hl.1 (Nat.le_of_ble_eq_true rfl) dX3_inAllRows_2 ⟨Nat.le_of_ble_eq_true rfl, Nat.le_of_ble_eq_true rfl⟩) ?_
    clear hz1
    refine lv_if_ne (tgt := 10) hx hb dX3_inAllRows_5 (by decide) (fun c2 => ?_) (fun c2 => ?_)
    · have h := jf c2 h
      refine lv_iconst (v := (0 : Int32)) hx hb dX3_inAllRows_10 (by decide) ?_
      refine lv_istore_n (lv' := [(2, .int (0 : Int32)), (0, .ref (qa 0)), (1, .ref (qb 0))]) hx hb dX3_inAllRows_11 rfl hl (by decide) rfl (fun ls hl => ?_)
      refine lv_iconst (v := (0 : Int32)) hx hb dX3_inAllRows_12 (by decide) ?_
      refine lv_istore_n (lv' := [(3, .int (0 : Int32)), (2, .int (0 : Int32)), (0, .ref (qa 0)), (1, .ref (qb 0))]) hx hb dX3_inAllRows_13 rfl hl (by decide) rfl (fun ls hl => ?_)
      obtain ⟨r3, hz3, h3_⟩ := jb h
      have hex3 : ∀ e3 : Int32, r3 = e3 → ∀ (ls : Array Slot), lv_has ls 5 [(2, .int e3)] → W p l e rm_X3_inAllRows s m args below meth c H [] 0 0 (MQ below (jSi o) args s 0 0 (fun _ => False)) (F0 m 54 ls []) := by
        intro e3 he ls hl
        rw [he] at h3_
        have h := h3_
        clear hz3
        refine lv_iload_n hx hb dX3_inAllRows_54 rfl (lv_at hl 0 rfl) ?_
        exact W.iret hx hb hr (fun t ht _ => ⟨_, rfl, Option.some.inj h, ht.trans hH⟩) (fun q h => by cases h) dX3_inAllRows_55 hlocks
      have hlp3 : ∀ (nn : Nat) (z3 : (Int32 × Int32)), jw (X3_inAllRows_s14 N vg vh) nn z3 = some r3 → ∀ (ls : Array Slot), lv_has ls 5 [(0, .ref (qa 0)), (1, .ref (qb 0)), (2, .int z3.1), (3, .int z3.2)] → W p l e rm_X3_inAllRows s m args below meth c H [] 0 0 (MQ below (jSi o) args s 0 0 (fun _ => False)) (F0 m 14 ls []) := by
        refine jw_P (r := r3) (P := fun z3 : (Int32 × Int32) => ∀ (ls : Array Slot), lv_has ls 5 [(0, .ref (qa 0)), (1, .ref (qb 0)), (2, .int z3.1), (3, .int z3.2)] → W p l e rm_X3_inAllRows s m args below meth c H [] 0 0 (MQ below (jSi o) args s 0 0 (fun _ => False)) (F0 m 14 ls [])) ?_
        intro z3 x3 h hin hout ls hl
        unfold X3_inAllRows_s14 at h
        refine lv_iload_n hx hb dX3_inAllRows_14 rfl (lv_at hl 3 rfl) ?_
        refine lv_aload_n hx hb dX3_inAllRows_15 rfl (lv_at hl 1 rfl) ?_
        refine va_get (D := D) (ci := 0) (v := .int (vh.2 1)) (C := RX0) (T := TX0) (N := 12) hx hb hts in_X3_inAllRows_X0 hown hK.1 hP 3 rfl rfl 9 (by decide) (hts _ kw_X3_inAllRows_1) (fun _ h9 => h9) rfl dX3_inAllRows_16 ?_
        refine lv_icmp_ge (tgt := 54) hx hb dX3_inAllRows_19 (by decide) (fun c4 => ?_) (fun c4 => ?_)
        · have h := jt c4 h
          exact hex3 _ (hout _ (Option.some.inj h).symm).symm ls (lv_sub hl [2] rfl)
        · have h := jf c4 h
          refine lv_aload_n hx hb dX3_inAllRows_22 rfl (lv_at hl 0 rfl) ?_
          refine lv_aload_n hx hb dX3_inAllRows_23 rfl (lv_at hl 1 rfl) ?_
          refine lv_iload_n hx hb dX3_inAllRows_24 rfl (lv_at hl 3 rfl) ?_
          obtain ⟨z5, hz5, h⟩ := jb h
          refine jki (jrV (As := [.ref (qb 0), .int z3.2]) (rest := []) ⟨hx, hb, hml, hown, hts⟩ (c_X3_possibleAt l D cyI cyZ cyT qa qb  N z3.2 vg vh z5 hz5) (cwV 2 hts gX3_inAllRows_X3_possibleAt rfl rfl rfl (by decide +kernel) ⟨Nat.le_of_ble_eq_true rfl, Nat.le_of_ble_eq_true rfl⟩) hK hP rfl 3 0 rfl rfl rfl hl.1 (Nat.le_of_ble_eq_true rfl) dX3_inAllRows_25 ⟨Nat.le_of_ble_eq_true rfl, Nat.le_of_ble_eq_true rfl⟩) ?_
          clear hz5
          refine lv_istore (lv' := [(4, .int z5), (0, .ref (qa 0)), (1, .ref (qb 0)), (2, .int z3.1), (3, .int z3.2)]) hx hb dX3_inAllRows_28 hl (by decide) rfl (fun ls hl => ?_)
          refine lv_iload_n hx hb dX3_inAllRows_30 rfl (lv_at hl 3 rfl) ?_
          refine lv_iload hx hb dX3_inAllRows_31 (lv_at hl 0 rfl) ?_
          obtain ⟨z6, hz6, h⟩ := jb h
          refine jki (jrS (As := [.int z5]) (rest := [.int z3.1]) ⟨hx, hb, hml, hown, hts⟩ (c_J6_bitCount_0f7a4 l D cyI cyZ cyT   z5 z6 hz6) (va_cwS 1 hts gX3_inAllRows_J6_bitCount_0f7a4 rfl rfl rfl (by decide +kernel) ⟨Nat.le_of_ble_eq_true rfl, Nat.le_of_ble_eq_true rfl⟩) hK jP0 rfl rfl hl.1 (Nat.le_of_ble_eq_true rfl) dX3_inAllRows_33 ⟨Nat.le_of_ble_eq_true rfl, Nat.le_of_ble_eq_true rfl⟩) ?_
          clear hz6
          refine lv_iconst (v := (1 : Int32)) hx hb dX3_inAllRows_36 (by decide) ?_
          obtain ⟨z7, hz7, h⟩ := jb h
          have hk7 : ∀ (ls : Array Slot), lv_has ls 5 [(0, .ref (qa 0)), (1, .ref (qb 0)), (3, .int z3.2)] → W p l e rm_X3_inAllRows s m args below meth c H [] 0 0 (MQ below (jSi o) args s 0 0 (fun _ => False)) (F0 m 46 ls [.int z7, .int z3.1]) := by
            intro ls hl
            refine lv_ior hx hb dX3_inAllRows_46 ?_
            refine lv_istore_n (lv' := [(2, .int (z3.1 ||| z7)), (0, .ref (qa 0)), (1, .ref (qb 0)), (3, .int z3.2)]) hx hb dX3_inAllRows_47 rfl hl (by decide) rfl (fun ls hl => ?_)
            refine lv_iinc (v := z3.2 + (1 : Int32)) (lv' := [(3, .int (z3.2 + (1 : Int32))), (2, .int (z3.1 ||| z7)), (0, .ref (qa 0)), (1, .ref (qb 0))]) hx hb dX3_inAllRows_48 hl (k := 3) rfl rfl (by decide) rfl (fun ls hl => ?_)
            refine lv_goto (tgt := 14) hx hb dX3_inAllRows_51 (by decide) ?_
            exact hin _ (Option.some.inj h).symm ls (lv_sub hl [2, 3, 1, 0] rfl)
          clear h
          have h := hz7
          clear hz7
          refine lv_icmp_ne (tgt := 45) hx hb dX3_inAllRows_37 (by decide) (fun c8 => ?_) (fun c8 => ?_)
          · have h := jf c8 h
            refine lv_iconst (v := (0 : Int32)) hx hb dX3_inAllRows_45 (by decide) ?_
            obtain rfl := Option.some.inj h
            exact hk7 ls (lv_sub hl [1, 2, 4] rfl)
          · have h := jt c8 h
            refine lv_iload hx hb dX3_inAllRows_40 (lv_at hl 0 rfl) ?_
            refine lv_goto (tgt := 46) hx hb dX3_inAllRows_42 (by decide) ?_
            obtain rfl := Option.some.inj h
            exact hk7 ls (lv_sub hl [1, 2, 4] rfl)
      exact hlp3 _ _ hz3 ls (lv_sub hl [2, 3, 1, 0] rfl)
    · have h := jt c2 h
      refine lv_iconst (v := (0 : Int32)) hx hb dX3_inAllRows_8 (by decide) ?_
      exact W.iret hx hb hr (fun t ht _ => ⟨_, rfl, Option.some.inj h, ht.trans hH⟩) (fun q h => by cases h) dX3_inAllRows_9 hlocks
  exact key s.heap hP rfl
theorem kw_X4_dismiss_1 : (.fieldLink RX4 9 "BellTheCat$Team" "doers" "[I" : Cond) ∈ wsX4_dismiss := List.mem_of_getElem? (i := 1) rfl
theorem in_X4_dismiss_X4 : ∀ w ∈ wsX40, w ∈ wsX4_dismiss := fun w h => List.mem_cons_of_mem _ (List.mem_append_right _ h)
abbrev rm_X4_dismiss : Room := { frames := 1, cells := 0, slots := 0, locals := 23 }
set_option maxHeartbeats 4000000 in
set_option maxRecDepth 100000 in
theorem c_X4_dismiss (l : Launch) (D : va_G) (cyI cyZ cyT : ClassId) (qa : Nat → Nat) (sz : Nat) (N : Nat) (vt : Mo) (o : Mo) (hf : f_X4_dismiss N vt = some o) : Met l yX4_dismiss wsX4_dismiss rm_X4_dismiss (va_Pc [.ref (qa 0)] (jM D cyI cyZ cyT (wT cyI qa vt) sz)) (jQv D (va_A (wT cyI qa vt) sz) (fun u : Mo => wT cyI qa u) o) 0 0 (va_A (wT cyI qa vt) sz) := by
  refine Met.ofW (cc := cX4_dismiss) (maxL := 1) (ret := none) (by decide) rfl ?_
  intro p e s m args below meth c s₁ B hml hv
  obtain ⟨rfl, hsz, hP, hK, hD0⟩ := hv
  have hx := B.exec
  have hb := B.bytes
  have hr := B.returns
  have hts := atoms_spec (ws := wsX4_dismiss) B.pre
  have hown : s.vm.findClass RX4 = some m.cls := findClass_of_methodNamed B.named
  have hlocks := B.notSynchronized
  subst hsz
  have hD := hD0.self (sz := s.heap.size)
  generalize hAe : va_A (wT cyI qa vt) s.heap.size = A at hD ⊢
  have hA : ∀ q : Nat, s.heap.size ≤ q → A q := fun q h => by rw [← hAe]; exact Or.inr h
  have hS : va_S A s.heap s.heap [] := va_S.rf
  have hl := lv_entry ([.ref (qa 0)]) (n := 1) (Nat.le_of_ble_eq_true rfl)
  rw [lg_entry_eq]
  generalize (lg_sl ([.ref (qa 0)]) ++ List.replicate (1 - (lg_sl ([.ref (qa 0)])).length) Slot.unset).toArray = ls at hl ⊢
  have hl : lv_has ls 1 [(0, .ref (qa 0))] := hl
  clear B
  generalize ([.ref (qa 0)] : List Value).toArray = args at hts ⊢
  have key : ∀ (H : Heap) (locs : List Loc), va_P D vwCl (wT cyI qa vt) H → va_D A (wT cyI qa vt) → va_S A s.heap H locs → W p l e rm_X4_dismiss s m args below meth c H locs 0 0 (MQ below (jQv D A (fun u : Mo => wT cyI qa u) o) args s 0 0 A) (F0 m 0 ls []) := by
    intro H locs hP hD hS
    have h := hf
    unfold f_X4_dismiss at h
    refine lv_aload_n hx hb dX4_dismiss_0 rfl (lv_at hl 0 rfl) ?_
    refine va_get (D := D) (ci := 4) (v := .ref (qa 1)) (C := RX4) (T := TX4) (N := 4) hx hb hts in_X4_dismiss_X4 hown hK.1 hP 0 rfl rfl 0 (by decide) (hts _ kw_X4_dismiss_1) (fun _ h9 => h9) rfl dX4_dismiss_1 ?_
    refine lv_iconst (v := (-1 : Int32)) hx hb dX4_dismiss_4 (by decide) ?_
    obtain ⟨z1, hz1, h⟩ := jb h
    refine jgv (w1 := fun u : (Nat → Int32) => wA cyI (fun k => qa (1 + k)) 5 u) (wn := wT cyI qa (va_up vt.1 0 z1, vt.2)) (jmS (As := [.ref (qa 1), .int (-1 : Int32)]) (rest := []) ⟨hx, hb, hml, hown, hts⟩ (c_J7_fill_53178 l D cyI cyZ cyT (fun k => qa (1 + k)) H.size N (-1 : Int32) 5 (vt.1 0) z1 hz1) (va_cwS 2 hts gX4_dismiss_J7_fill_53178 rfl rfl rfl (by decide +kernel) ⟨Nat.le_of_ble_eq_true rfl, Nat.le_of_ble_eq_true rfl⟩) hK (hP.sub (ws' := wA cyI (fun k => qa (1 + k)) 5 (vt.1 0)) [1] rfl) (hD.sub (ws' := wA cyI (fun k => qa (1 + k)) 5 (vt.1 0)) [1] (by decide) rfl) rfl rfl hl.1 (Nat.le_of_ble_eq_true rfl) dX4_dismiss_5 ⟨Nat.le_of_ble_eq_true rfl, Nat.le_of_ble_eq_true rfl⟩) hP hD hS hA [1] [0] [0, 1] rfl rfl (by decide) (by decide) rfl (by decide) (fun H locs hP hD hS => ?_)
    clear hz1
    exact W.vret hx hb hr (fun t ht _ => ⟨⟨_, rfl, Option.some.inj h, by rw [ht]; exact hP, hD⟩, hS.F ht⟩) hS.2.2 dX4_dismiss_8 hlocks
  exact key s.heap [] hP hD hS
theorem kw_X4_begin_1 : (.fieldLink RX4 24 "BellTheCat$Team" "nights" "I" : Cond) ∈ wsX4_begin := List.mem_of_getElem? (i := 1) rfl
theorem kw_X4_begin_2 : (.fieldLink RX4 28 "BellTheCat$Team" "living" "I" : Cond) ∈ wsX4_begin := List.mem_of_getElem? (i := 2) rfl
theorem kw_X4_begin_3 : (.fieldLink RX4 31 "BellTheCat$Team" "belled" "Z" : Cond) ∈ wsX4_begin := List.mem_of_getElem? (i := 3) rfl
theorem in_X4_begin_X4 : ∀ w ∈ wsX40, w ∈ wsX4_begin := fun w h => List.mem_cons_of_mem _ (List.mem_append_right _ h)
abbrev rm_X4_begin : Room := { frames := 2, cells := 0, slots := 0, locals := 43 }
set_option maxHeartbeats 4000000 in
set_option maxRecDepth 100000 in
theorem c_X4_begin (l : Launch) (D : va_G) (cyI cyZ cyT : ClassId) (qa : Nat → Nat) (sz : Nat) (N : Nat) (a1 : Int32) (vt : Mo) (o : Mo) (hf : f_X4_begin N a1 vt = some o) : Met l yX4_begin wsX4_begin rm_X4_begin (va_Pc [.ref (qa 0), .int a1] (jM D cyI cyZ cyT (wT cyI qa vt) sz)) (jQv D (va_A (wT cyI qa vt) sz) (fun u : Mo => wT cyI qa u) o) 0 0 (va_A (wT cyI qa vt) sz) := by
  refine Met.ofW (cc := cX4_begin) (maxL := 2) (ret := none) (by decide) rfl ?_
  intro p e s m args below meth c s₁ B hml hv
  obtain ⟨rfl, hsz, hP, hK, hD0⟩ := hv
  have hx := B.exec
  have hb := B.bytes
  have hr := B.returns
  have hts := atoms_spec (ws := wsX4_begin) B.pre
  have hown : s.vm.findClass RX4 = some m.cls := findClass_of_methodNamed B.named
  have hlocks := B.notSynchronized
  subst hsz
  have hD := hD0.self (sz := s.heap.size)
  generalize hAe : va_A (wT cyI qa vt) s.heap.size = A at hD ⊢
  have hA : ∀ q : Nat, s.heap.size ≤ q → A q := fun q h => by rw [← hAe]; exact Or.inr h
  have hS : va_S A s.heap s.heap [] := va_S.rf
  have hl := lv_entry ([.ref (qa 0), .int a1]) (n := 2) (Nat.le_of_ble_eq_true rfl)
  rw [lg_entry_eq]
  generalize (lg_sl ([.ref (qa 0), .int a1]) ++ List.replicate (2 - (lg_sl ([.ref (qa 0), .int a1])).length) Slot.unset).toArray = ls at hl ⊢
  have hl : lv_has ls 2 [(0, .ref (qa 0)), (1, .int a1)] := hl
  clear B
  generalize ([.ref (qa 0), .int a1] : List Value).toArray = args at hts ⊢
  have key : ∀ (H : Heap) (locs : List Loc), va_P D vwCl (wT cyI qa vt) H → va_D A (wT cyI qa vt) → va_S A s.heap H locs → W p l e rm_X4_begin s m args below meth c H locs 0 0 (MQ below (jQv D A (fun u : Mo => wT cyI qa u) o) args s 0 0 A) (F0 m 0 ls []) := by
    intro H locs hP hD hS
    have h := hf
    unfold f_X4_begin at h
    refine lv_aload_n hx hb dX4_begin_0 rfl (lv_at hl 0 rfl) ?_
    obtain ⟨z1, hz1, h⟩ := jb h
    refine jgv (w1 := fun u : Mo => wT cyI qa u) (wn := wT cyI qa z1) (jmV (As := []) (rest := []) ⟨hx, hb, hml, hown, hts⟩ (c_X4_dismiss l D cyI cyZ cyT qa H.size N vt z1 hz1) (cwV 0 hts gX4_begin_X4_dismiss rfl rfl rfl (by decide +kernel) ⟨Nat.le_of_ble_eq_true rfl, Nat.le_of_ble_eq_true rfl⟩) hK hP hD rfl 4 0 rfl rfl rfl hl.1 (Nat.le_of_ble_eq_true rfl) dX4_begin_1 ⟨Nat.le_of_ble_eq_true rfl, Nat.le_of_ble_eq_true rfl⟩) hP hD hS hA [0, 1] [] [0, 1] rfl rfl (by decide) (by decide) rfl (by decide) (fun H locs hP hD hS => ?_)
    clear hz1
    refine lv_aload_n hx hb dX4_begin_4 rfl (lv_at hl 0 rfl) ?_
    refine lv_iconst (v := (0 : Int32)) hx hb dX4_begin_5 (by decide) ?_
    refine va_put (D := D) (ci := 4) (v := .int (0 : Int32)) (ty := .int) (C := RX4) (T := TX4) (N := 4) hx hb hts in_X4_begin_X4 tyX4 tyX4_ok nmX4 hown hK.1 hP hD hS 0 rfl rfl 1 (by decide) (hts _ kw_X4_begin_1) (fun _ h9 => h9) rfl (tyX4_ok 1 (by decide)) rfl rfl (Nat.le_of_ble_eq_true rfl) dX4_begin_6 (fun H locs hP hD hS => ?_)
    have hP : va_P D vwCl (wT cyI qa (z1.1, va_up z1.2 0 (0 : Int32))) H := hP
    have hD : va_D A (wT cyI qa (z1.1, va_up z1.2 0 (0 : Int32))) := hD
    refine lv_aload_n hx hb dX4_begin_9 rfl (lv_at hl 0 rfl) ?_
    refine lv_iconst (v := (1 : Int32)) hx hb dX4_begin_10 (by decide) ?_
    refine lv_iload_n hx hb dX4_begin_11 rfl (lv_at hl 1 rfl) ?_
    refine lv_ishl hx hb dX4_begin_12 ?_
    refine lv_iconst (v := (1 : Int32)) hx hb dX4_begin_13 (by decide) ?_
    refine lv_isub hx hb dX4_begin_14 ?_
    refine va_put (D := D) (ci := 4) (v := .int (((1 : Int32) <<< (a1 &&& 31)) - (1 : Int32))) (ty := .int) (C := RX4) (T := TX4) (N := 4) hx hb hts in_X4_begin_X4 tyX4 tyX4_ok nmX4 hown hK.1 hP hD hS 0 rfl rfl 2 (by decide) (hts _ kw_X4_begin_2) (fun _ h9 => h9) rfl (tyX4_ok 2 (by decide)) rfl rfl (Nat.le_of_ble_eq_true rfl) dX4_begin_15 (fun H locs hP hD hS => ?_)
    have hP : va_P D vwCl (wT cyI qa (z1.1, va_up (va_up z1.2 0 (0 : Int32)) 1 (((1 : Int32) <<< (a1 &&& 31)) - (1 : Int32)))) H := hP
    have hD : va_D A (wT cyI qa (z1.1, va_up (va_up z1.2 0 (0 : Int32)) 1 (((1 : Int32) <<< (a1 &&& 31)) - (1 : Int32)))) := hD
    refine lv_aload_n hx hb dX4_begin_18 rfl (lv_at hl 0 rfl) ?_
    refine lv_iconst (v := (0 : Int32)) hx hb dX4_begin_19 (by decide) ?_
    refine va_put (D := D) (ci := 4) (v := .int (0 : Int32)) (ty := .boolean) (C := RX4) (T := TX4) (N := 4) hx hb hts in_X4_begin_X4 tyX4 tyX4_ok nmX4 hown hK.1 hP hD hS 0 rfl rfl 3 (by decide) (hts _ kw_X4_begin_3) (fun _ h9 => h9) rfl (tyX4_ok 3 (by decide)) rfl rfl (Nat.le_of_ble_eq_true rfl) dX4_begin_20 (fun H locs hP hD hS => ?_)
    have hP : va_P D vwCl (wT cyI qa (z1.1, va_up (va_up (va_up z1.2 0 (0 : Int32)) 1 (((1 : Int32) <<< (a1 &&& 31)) - (1 : Int32))) 2 (0 : Int32))) H := hP
    have hD : va_D A (wT cyI qa (z1.1, va_up (va_up (va_up z1.2 0 (0 : Int32)) 1 (((1 : Int32) <<< (a1 &&& 31)) - (1 : Int32))) 2 (0 : Int32))) := hD
    exact W.vret hx hb hr (fun t ht _ => ⟨⟨_, rfl, Option.some.inj h, by rw [ht]; exact hP, hD⟩, hS.F ht⟩) hS.2.2 dX4_begin_23 hlocks
  exact key s.heap [] hP hD hS
theorem kw_X4_doerOf_1 : (.fieldLink RX4 9 "BellTheCat$Team" "doers" "[I" : Cond) ∈ wsX4_doerOf := List.mem_of_getElem? (i := 1) rfl
theorem in_X4_doerOf_X4 : ∀ w ∈ wsX40, w ∈ wsX4_doerOf := fun w h => List.mem_cons_of_mem _ (List.mem_append_right _ h)
abbrev rm_X4_doerOf : Room := { frames := 0, cells := 0, slots := 0, locals := 0 }
set_option maxHeartbeats 4000000 in
set_option maxRecDepth 100000 in
theorem c_X4_doerOf (l : Launch) (D : va_G) (cyI cyZ cyT : ClassId) (qa : Nat → Nat) (a1 : Int32) (vt : Mo) (o : Int32) (hf : f_X4_doerOf a1 vt = some o) : Met l yX4_doerOf wsX4_doerOf rm_X4_doerOf (va_Pc [.ref (qa 0), .int a1] (jB D cyI cyZ cyT (wT cyI qa vt))) (jSi o) 0 0 (fun _ => False) := by
  refine Met.ofW (cc := cX4_doerOf) (maxL := 2) (ret := (some .int)) (by decide) rfl ?_
  intro p e s m args below meth c s₁ B hml hv
  obtain ⟨rfl, hP, hK⟩ := hv
  have hx := B.exec
  have hb := B.bytes
  have hr := B.returns
  have hts := atoms_spec (ws := wsX4_doerOf) B.pre
  have hown : s.vm.findClass RX4 = some m.cls := findClass_of_methodNamed B.named
  have hlocks := B.notSynchronized
  have hl := lv_entry ([.ref (qa 0), .int a1]) (n := 2) (Nat.le_of_ble_eq_true rfl)
  rw [lg_entry_eq]
  generalize (lg_sl ([.ref (qa 0), .int a1]) ++ List.replicate (2 - (lg_sl ([.ref (qa 0), .int a1])).length) Slot.unset).toArray = ls at hl ⊢
  have hl : lv_has ls 2 [(0, .ref (qa 0)), (1, .int a1)] := hl
  clear B
  generalize ([.ref (qa 0), .int a1] : List Value).toArray = args at hts ⊢
  have key : ∀ (H : Heap), va_P D vwCl (wT cyI qa vt) H → H = s.heap → W p l e rm_X4_doerOf s m args below meth c H [] 0 0 (MQ below (jSi o) args s 0 0 (fun _ => False)) (F0 m 0 ls []) := by
    intro H hP hH
    have h := hf
    unfold f_X4_doerOf at h
    refine lv_iload_n hx hb dX4_doerOf_0 rfl (lv_at hl 1 rfl) ?_
    refine lv_if_lt (tgt := 18) hx hb dX4_doerOf_1 (by decide) (fun c1 => ?_) (fun c1 => ?_)
    · have h := jt c1 h
      refine lv_iconst (v := (-1 : Int32)) hx hb dX4_doerOf_18 (by decide) ?_
      exact W.iret hx hb hr (fun t ht _ => ⟨_, rfl, Option.some.inj h, ht.trans hH⟩) (fun q h => by cases h) dX4_doerOf_19 hlocks
    · have h := jf c1 h
      refine lv_iload_n hx hb dX4_doerOf_4 rfl (lv_at hl 1 rfl) ?_
      refine lv_iconst (v := (5 : Int32)) hx hb dX4_doerOf_5 (by decide) ?_
      refine lv_icmp_ge (tgt := 18) hx hb dX4_doerOf_6 (by decide) (fun c2 => ?_) (fun c2 => ?_)
      · have h := jt c2 h
        refine lv_iconst (v := (-1 : Int32)) hx hb dX4_doerOf_18 (by decide) ?_
        exact W.iret hx hb hr (fun t ht _ => ⟨_, rfl, Option.some.inj h, ht.trans hH⟩) (fun q h => by cases h) dX4_doerOf_19 hlocks
      · have h := jf c2 h
        refine lv_aload_n hx hb dX4_doerOf_9 rfl (lv_at hl 0 rfl) ?_
        refine va_get (D := D) (ci := 4) (v := .ref (qa 1)) (C := RX4) (T := TX4) (N := 4) hx hb hts in_X4_doerOf_X4 hown hK.1 hP 0 rfl rfl 0 (by decide) (hts _ kw_X4_doerOf_1) (fun _ h9 => h9) rfl dX4_doerOf_10 ?_
        refine lv_iload_n hx hb dX4_doerOf_13 rfl (lv_at hl 1 rfl) ?_
        obtain ⟨g3, h⟩ := jn h
        refine jald hx hb hK hP 1 rfl _ rfl g3 dX4_doerOf_14 ?_
        refine lv_goto (tgt := 19) hx hb dX4_doerOf_15 (by decide) ?_
        exact W.iret hx hb hr (fun t ht _ => ⟨_, rfl, Option.some.inj h, ht.trans hH⟩) (fun q h => by cases h) dX4_doerOf_19 hlocks
  exact key s.heap hP rfl
theorem kw_X4_filledSteps_1 : (.fieldLink RX4 9 "BellTheCat$Team" "doers" "[I" : Cond) ∈ wsX4_filledSteps := List.mem_of_getElem? (i := 1) rfl
theorem in_X4_filledSteps_X4 : ∀ w ∈ wsX40, w ∈ wsX4_filledSteps := fun w h => List.mem_cons_of_mem _ (List.mem_append_right _ h)
abbrev rm_X4_filledSteps : Room := { frames := 0, cells := 0, slots := 0, locals := 0 }
set_option maxHeartbeats 4000000 in
set_option maxRecDepth 100000 in
theorem c_X4_filledSteps (l : Launch) (D : va_G) (cyI cyZ cyT : ClassId) (qa : Nat → Nat) (N : Nat) (vt : Mo) (o : Int32) (hf : f_X4_filledSteps N vt = some o) : Met l yX4_filledSteps wsX4_filledSteps rm_X4_filledSteps (va_Pc [.ref (qa 0)] (jB D cyI cyZ cyT (wT cyI qa vt))) (jSi o) 0 0 (fun _ => False) := by
  refine Met.ofW (cc := cX4_filledSteps) (maxL := 3) (ret := (some .int)) (by decide) rfl ?_
  intro p e s m args below meth c s₁ B hml hv
  obtain ⟨rfl, hP, hK⟩ := hv
  have hx := B.exec
  have hb := B.bytes
  have hr := B.returns
  have hts := atoms_spec (ws := wsX4_filledSteps) B.pre
  have hown : s.vm.findClass RX4 = some m.cls := findClass_of_methodNamed B.named
  have hlocks := B.notSynchronized
  have hl := lv_entry ([.ref (qa 0)]) (n := 3) (Nat.le_of_ble_eq_true rfl)
  rw [lg_entry_eq]
  generalize (lg_sl ([.ref (qa 0)]) ++ List.replicate (3 - (lg_sl ([.ref (qa 0)])).length) Slot.unset).toArray = ls at hl ⊢
  have hl : lv_has ls 3 [(0, .ref (qa 0))] := hl
  clear B
  generalize ([.ref (qa 0)] : List Value).toArray = args at hts ⊢
  have key : ∀ (H : Heap), va_P D vwCl (wT cyI qa vt) H → H = s.heap → W p l e rm_X4_filledSteps s m args below meth c H [] 0 0 (MQ below (jSi o) args s 0 0 (fun _ => False)) (F0 m 0 ls []) := by
    intro H hP hH
    have h := hf
    unfold f_X4_filledSteps at h
    refine lv_iconst (v := (0 : Int32)) hx hb dX4_filledSteps_0 (by decide) ?_
    refine lv_istore_n (lv' := [(1, .int (0 : Int32)), (0, .ref (qa 0))]) hx hb dX4_filledSteps_1 rfl hl (by decide) rfl (fun ls hl => ?_)
    refine lv_iconst (v := (0 : Int32)) hx hb dX4_filledSteps_2 (by decide) ?_
    refine lv_istore_n (lv' := [(2, .int (0 : Int32)), (1, .int (0 : Int32)), (0, .ref (qa 0))]) hx hb dX4_filledSteps_3 rfl hl (by decide) rfl (fun ls hl => ?_)
    obtain ⟨r1, hz1, h1_⟩ := jb h
    have hex1 : ∀ e1 : Int32, r1 = e1 → ∀ (ls : Array Slot), lv_has ls 3 [(1, .int e1)] → W p l e rm_X4_filledSteps s m args below meth c H [] 0 0 (MQ below (jSi o) args s 0 0 (fun _ => False)) (F0 m 33 ls []) := by
      intro e1 he ls hl
      rw [he] at h1_
      have h := h1_
      clear hz1
      refine lv_iload_n hx hb dX4_filledSteps_33 rfl (lv_at hl 0 rfl) ?_
      exact W.iret hx hb hr (fun t ht _ => ⟨_, rfl, Option.some.inj h, ht.trans hH⟩) (fun q h => by cases h) dX4_filledSteps_34 hlocks
    have hlp1 : ∀ (nn : Nat) (z1 : (Int32 × Int32)), jw (X4_filledSteps_s4 vt) nn z1 = some r1 → ∀ (ls : Array Slot), lv_has ls 3 [(0, .ref (qa 0)), (1, .int z1.1), (2, .int z1.2)] → W p l e rm_X4_filledSteps s m args below meth c H [] 0 0 (MQ below (jSi o) args s 0 0 (fun _ => False)) (F0 m 4 ls []) := by
      refine jw_P (r := r1) (P := fun z1 : (Int32 × Int32) => ∀ (ls : Array Slot), lv_has ls 3 [(0, .ref (qa 0)), (1, .int z1.1), (2, .int z1.2)] → W p l e rm_X4_filledSteps s m args below meth c H [] 0 0 (MQ below (jSi o) args s 0 0 (fun _ => False)) (F0 m 4 ls [])) ?_
      intro z1 x1 h hin hout ls hl
      unfold X4_filledSteps_s4 at h
      refine lv_iload_n hx hb dX4_filledSteps_4 rfl (lv_at hl 2 rfl) ?_
      refine lv_iconst (v := (5 : Int32)) hx hb dX4_filledSteps_5 (by decide) ?_
      refine lv_icmp_ge (tgt := 33) hx hb dX4_filledSteps_6 (by decide) (fun c2 => ?_) (fun c2 => ?_)
      · have h := jt c2 h
        exact hex1 _ (hout _ (Option.some.inj h).symm).symm ls (lv_sub hl [1] rfl)
      · have h := jf c2 h
        refine lv_iload_n hx hb dX4_filledSteps_9 rfl (lv_at hl 1 rfl) ?_
        refine lv_aload_n hx hb dX4_filledSteps_10 rfl (lv_at hl 0 rfl) ?_
        refine va_get (D := D) (ci := 4) (v := .ref (qa 1)) (C := RX4) (T := TX4) (N := 4) hx hb hts in_X4_filledSteps_X4 hown hK.1 hP 0 rfl rfl 0 (by decide) (hts _ kw_X4_filledSteps_1) (fun _ h9 => h9) rfl dX4_filledSteps_11 ?_
        refine lv_iload_n hx hb dX4_filledSteps_14 rfl (lv_at hl 2 rfl) ?_
        obtain ⟨g3, h⟩ := jn h
        refine jald hx hb hK hP 1 rfl _ rfl g3 dX4_filledSteps_15 ?_
        refine lv_iconst (v := (-1 : Int32)) hx hb dX4_filledSteps_16 (by decide) ?_
        obtain ⟨z4, hz4, h⟩ := jb h
        have hk4 : ∀ (ls : Array Slot), lv_has ls 3 [(0, .ref (qa 0)), (2, .int z1.2)] → W p l e rm_X4_filledSteps s m args below meth c H [] 0 0 (MQ below (jSi o) args s 0 0 (fun _ => False)) (F0 m 25 ls [.int z4, .int z1.1]) := by
          intro ls hl
          refine lv_iadd hx hb dX4_filledSteps_25 ?_
          refine lv_istore_n (lv' := [(1, .int (z1.1 + z4)), (0, .ref (qa 0)), (2, .int z1.2)]) hx hb dX4_filledSteps_26 rfl hl (by decide) rfl (fun ls hl => ?_)
          refine lv_iinc (v := z1.2 + (1 : Int32)) (lv' := [(2, .int (z1.2 + (1 : Int32))), (1, .int (z1.1 + z4)), (0, .ref (qa 0))]) hx hb dX4_filledSteps_27 hl (k := 2) rfl rfl (by decide) rfl (fun ls hl => ?_)
          refine lv_goto (tgt := 4) hx hb dX4_filledSteps_30 (by decide) ?_
          exact hin _ (Option.some.inj h).symm ls (lv_sub hl [2, 1, 0] rfl)
        clear h
        have h := hz4
        clear hz4
        refine lv_icmp_ne (tgt := 24) hx hb dX4_filledSteps_17 (by decide) (fun c5 => ?_) (fun c5 => ?_)
        · have h := jf c5 h
          refine lv_iconst (v := (1 : Int32)) hx hb dX4_filledSteps_24 (by decide) ?_
          obtain rfl := Option.some.inj h
          exact hk4 ls (lv_sub hl [0, 2] rfl)
        · have h := jt c5 h
          refine lv_iconst (v := (0 : Int32)) hx hb dX4_filledSteps_20 (by decide) ?_
          refine lv_goto (tgt := 25) hx hb dX4_filledSteps_21 (by decide) ?_
          obtain rfl := Option.some.inj h
          exact hk4 ls (lv_sub hl [0, 2] rfl)
    exact hlp1 _ _ hz1 ls (lv_sub hl [2, 1, 0] rfl)
  exact key s.heap hP rfl
theorem kw_X4_lives_1 : (.fieldLink RX4 28 "BellTheCat$Team" "living" "I" : Cond) ∈ wsX4_lives := List.mem_of_getElem? (i := 1) rfl
theorem in_X4_lives_X4 : ∀ w ∈ wsX40, w ∈ wsX4_lives := fun w h => List.mem_cons_of_mem _ (List.mem_append_right _ h)
abbrev rm_X4_lives : Room := { frames := 0, cells := 0, slots := 0, locals := 0 }
set_option maxHeartbeats 4000000 in
set_option maxRecDepth 100000 in
theorem c_X4_lives (l : Launch) (D : va_G) (cyI cyZ cyT : ClassId) (qa : Nat → Nat) (a1 : Int32) (vt : Mo) (o : Int32) (hf : f_X4_lives a1 vt = some o) : Met l yX4_lives wsX4_lives rm_X4_lives (va_Pc [.ref (qa 0), .int a1] (jB D cyI cyZ cyT (wT cyI qa vt))) (jSi o) 0 0 (fun _ => False) := by
  refine Met.ofW (cc := cX4_lives) (maxL := 2) (ret := (some .boolean)) (by decide) rfl ?_
  intro p e s m args below meth c s₁ B hml hv
  obtain ⟨rfl, hP, hK⟩ := hv
  have hx := B.exec
  have hb := B.bytes
  have hr := B.returns
  have hts := atoms_spec (ws := wsX4_lives) B.pre
  have hown : s.vm.findClass RX4 = some m.cls := findClass_of_methodNamed B.named
  have hlocks := B.notSynchronized
  have hl := lv_entry ([.ref (qa 0), .int a1]) (n := 2) (Nat.le_of_ble_eq_true rfl)
  rw [lg_entry_eq]
  generalize (lg_sl ([.ref (qa 0), .int a1]) ++ List.replicate (2 - (lg_sl ([.ref (qa 0), .int a1])).length) Slot.unset).toArray = ls at hl ⊢
  have hl : lv_has ls 2 [(0, .ref (qa 0)), (1, .int a1)] := hl
  clear B
  generalize ([.ref (qa 0), .int a1] : List Value).toArray = args at hts ⊢
  have key : ∀ (H : Heap), va_P D vwCl (wT cyI qa vt) H → H = s.heap → W p l e rm_X4_lives s m args below meth c H [] 0 0 (MQ below (jSi o) args s 0 0 (fun _ => False)) (F0 m 0 ls []) := by
    intro H hP hH
    have h := hf
    unfold f_X4_lives at h
    refine lv_iload_n hx hb dX4_lives_0 rfl (lv_at hl 1 rfl) ?_
    refine lv_if_lt (tgt := 26) hx hb dX4_lives_1 (by decide) (fun c1 => ?_) (fun c1 => ?_)
    · have h := jt c1 h
      refine lv_iconst (v := (0 : Int32)) hx hb dX4_lives_26 (by decide) ?_
      exact W.zret hx hb hr rfl (fun t ht _ => ⟨_, rfl, Option.some.inj h, ht.trans hH⟩) (fun q h => by cases h) dX4_lives_27 hlocks
    · have h := jf c1 h
      refine lv_iload_n hx hb dX4_lives_4 rfl (lv_at hl 1 rfl) ?_
      refine lv_bipush (v := (6 : Int32)) hx hb dX4_lives_5 (by decide) ?_
      refine lv_icmp_ge (tgt := 26) hx hb dX4_lives_7 (by decide) (fun c2 => ?_) (fun c2 => ?_)
      · have h := jt c2 h
        refine lv_iconst (v := (0 : Int32)) hx hb dX4_lives_26 (by decide) ?_
        exact W.zret hx hb hr rfl (fun t ht _ => ⟨_, rfl, Option.some.inj h, ht.trans hH⟩) (fun q h => by cases h) dX4_lives_27 hlocks
      · have h := jf c2 h
        refine lv_aload_n hx hb dX4_lives_10 rfl (lv_at hl 0 rfl) ?_
        refine va_get (D := D) (ci := 4) (v := .int (vt.2 1)) (C := RX4) (T := TX4) (N := 4) hx hb hts in_X4_lives_X4 hown hK.1 hP 0 rfl rfl 2 (by decide) (hts _ kw_X4_lives_1) (fun _ h9 => h9) rfl dX4_lives_11 ?_
        refine lv_iload_n hx hb dX4_lives_14 rfl (lv_at hl 1 rfl) ?_
        refine lv_ishr hx hb dX4_lives_15 ?_
        refine lv_iconst (v := (1 : Int32)) hx hb dX4_lives_16 (by decide) ?_
        refine lv_iand hx hb dX4_lives_17 ?_
        refine lv_iconst (v := (1 : Int32)) hx hb dX4_lives_18 (by decide) ?_
        refine lv_icmp_ne (tgt := 26) hx hb dX4_lives_19 (by decide) (fun c3 => ?_) (fun c3 => ?_)
        · have h := jf c3 h
          refine lv_iconst (v := (0 : Int32)) hx hb dX4_lives_26 (by decide) ?_
          exact W.zret hx hb hr rfl (fun t ht _ => ⟨_, rfl, Option.some.inj h, ht.trans hH⟩) (fun q h => by cases h) dX4_lives_27 hlocks
        · have h := jt c3 h
          refine lv_iconst (v := (1 : Int32)) hx hb dX4_lives_22 (by decide) ?_
          refine lv_goto (tgt := 27) hx hb dX4_lives_23 (by decide) ?_
          exact W.zret hx hb hr rfl (fun t ht _ => ⟨_, rfl, Option.some.inj h, ht.trans hH⟩) (fun q h => by cases h) dX4_lives_27 hlocks
  exact key s.heap hP rfl
abbrev rm_X4_isWhole : Room := { frames := 1, cells := 0, slots := 0, locals := 21 }
set_option maxHeartbeats 4000000 in
set_option maxRecDepth 100000 in
theorem c_X4_isWhole (l : Launch) (D : va_G) (cyI cyZ cyT : ClassId) (qa : Nat → Nat) (N : Nat) (a1 : Int32) (vt : Mo) (o : Int32) (hf : f_X4_isWhole N a1 vt = some o) : Met l yX4_isWhole wsX4_isWhole rm_X4_isWhole (va_Pc [.ref (qa 0), .int a1] (jB D cyI cyZ cyT (wT cyI qa vt))) (jSi o) 0 0 (fun _ => False) := by
  refine Met.ofW (cc := cX4_isWhole) (maxL := 3) (ret := (some .boolean)) (by decide) rfl ?_
  intro p e s m args below meth c s₁ B hml hv
  obtain ⟨rfl, hP, hK⟩ := hv
  have hx := B.exec
  have hb := B.bytes
  have hr := B.returns
  have hts := atoms_spec (ws := wsX4_isWhole) B.pre
  have hown : s.vm.findClass RX4 = some m.cls := findClass_of_methodNamed B.named
  have hlocks := B.notSynchronized
  have hl := lv_entry ([.ref (qa 0), .int a1]) (n := 3) (Nat.le_of_ble_eq_true rfl)
  rw [lg_entry_eq]
  generalize (lg_sl ([.ref (qa 0), .int a1]) ++ List.replicate (3 - (lg_sl ([.ref (qa 0), .int a1])).length) Slot.unset).toArray = ls at hl ⊢
  have hl : lv_has ls 3 [(0, .ref (qa 0)), (1, .int a1)] := hl
  clear B
  generalize ([.ref (qa 0), .int a1] : List Value).toArray = args at hts ⊢
  have key : ∀ (H : Heap), va_P D vwCl (wT cyI qa vt) H → H = s.heap → W p l e rm_X4_isWhole s m args below meth c H [] 0 0 (MQ below (jSi o) args s 0 0 (fun _ => False)) (F0 m 0 ls []) := by
    intro H hP hH
    have h := hf
    unfold f_X4_isWhole at h
    refine lv_iconst (v := (0 : Int32)) hx hb dX4_isWhole_0 (by decide) ?_
    refine lv_istore_n (lv' := [(2, .int (0 : Int32)), (0, .ref (qa 0)), (1, .int a1)]) hx hb dX4_isWhole_1 rfl hl (by decide) rfl (fun ls hl => ?_)
    obtain ⟨r1, hz1, h1_⟩ := jb h
    have hex1 : ∀ e1 : Unit, r1 = .inl e1 → ∀ (ls : Array Slot), lv_has ls 3 [] → W p l e rm_X4_isWhole s m args below meth c H [] 0 0 (MQ below (jSi o) args s 0 0 (fun _ => False)) (F0 m 27 ls []) := by
      intro e1 he ls hl
      have h := jsl h1_ he
      clear hz1
      refine lv_iconst (v := (1 : Int32)) hx hb dX4_isWhole_27 (by decide) ?_
      exact W.zret hx hb hr rfl (fun t ht _ => ⟨_, rfl, Option.some.inj h, ht.trans hH⟩) (fun q h => by cases h) dX4_isWhole_28 hlocks
    have hlp1 : ∀ (nn : Nat) (z1 : Int32), jw (X4_isWhole_s2 a1 vt) nn z1 = some r1 → ∀ (ls : Array Slot), lv_has ls 3 [(0, .ref (qa 0)), (1, .int a1), (2, .int z1)] → W p l e rm_X4_isWhole s m args below meth c H [] 0 0 (MQ below (jSi o) args s 0 0 (fun _ => False)) (F0 m 2 ls []) := by
      refine jw_P (r := r1) (P := fun z1 : Int32 => ∀ (ls : Array Slot), lv_has ls 3 [(0, .ref (qa 0)), (1, .int a1), (2, .int z1)] → W p l e rm_X4_isWhole s m args below meth c H [] 0 0 (MQ below (jSi o) args s 0 0 (fun _ => False)) (F0 m 2 ls [])) ?_
      intro z1 x1 h hin hout ls hl
      unfold X4_isWhole_s2 at h
      refine lv_iload_n hx hb dX4_isWhole_2 rfl (lv_at hl 2 rfl) ?_
      refine lv_iload_n hx hb dX4_isWhole_3 rfl (lv_at hl 1 rfl) ?_
      refine lv_icmp_ge (tgt := 27) hx hb dX4_isWhole_4 (by decide) (fun c2 => ?_) (fun c2 => ?_)
      · have h := jt c2 h
        exact hex1 _ (hout _ (Option.some.inj h).symm).symm ls (lv_sub hl [] rfl)
      · have h := jf c2 h
        refine lv_aload_n hx hb dX4_isWhole_7 rfl (lv_at hl 0 rfl) ?_
        refine lv_aload_n hx hb dX4_isWhole_8 rfl (lv_at hl 0 rfl) ?_
        refine lv_iload_n hx hb dX4_isWhole_9 rfl (lv_at hl 2 rfl) ?_
        obtain ⟨z3, hz3, h⟩ := jb h
        refine jki (jrV (As := [.int z1]) (rest := [.ref (qa 0)]) ⟨hx, hb, hml, hown, hts⟩ (c_X4_doerOf l D cyI cyZ cyT qa  z1 vt z3 hz3) (cwV 1 hts gX4_isWhole_X4_doerOf rfl rfl rfl (by decide +kernel) ⟨Nat.le_of_ble_eq_true rfl, Nat.le_of_ble_eq_true rfl⟩) hK hP rfl 4 0 rfl rfl rfl hl.1 (Nat.le_of_ble_eq_true rfl) dX4_isWhole_10 ⟨Nat.le_of_ble_eq_true rfl, Nat.le_of_ble_eq_true rfl⟩) ?_
        clear hz3
        obtain ⟨z4, hz4, h⟩ := jb h
        refine jki (jrV (As := [.int z3]) (rest := []) ⟨hx, hb, hml, hown, hts⟩ (c_X4_lives l D cyI cyZ cyT qa  z3 vt z4 hz4) (cwV 1 hts gX4_isWhole_X4_lives rfl rfl rfl (by decide +kernel) ⟨Nat.le_of_ble_eq_true rfl, Nat.le_of_ble_eq_true rfl⟩) hK hP rfl 4 0 rfl rfl rfl hl.1 (Nat.le_of_ble_eq_true rfl) dX4_isWhole_13 ⟨Nat.le_of_ble_eq_true rfl, Nat.le_of_ble_eq_true rfl⟩) ?_
        clear hz4
        refine lv_if_ne (tgt := 21) hx hb dX4_isWhole_16 (by decide) (fun c5 => ?_) (fun c5 => ?_)
        · have h := jf c5 h
          refine lv_iinc (v := z1 + (1 : Int32)) (lv' := [(2, .int (z1 + (1 : Int32))), (0, .ref (qa 0)), (1, .int a1)]) hx hb dX4_isWhole_21 hl (k := 2) rfl rfl (by decide) rfl (fun ls hl => ?_)
          refine lv_goto (tgt := 2) hx hb dX4_isWhole_24 (by decide) ?_
          exact hin _ (Option.some.inj h).symm ls (lv_sub hl [1, 2, 0] rfl)
        · have h := jt c5 h
          refine lv_iconst (v := (0 : Int32)) hx hb dX4_isWhole_19 (by decide) ?_
          have h := jsr h1_ (hout _ (Option.some.inj h).symm).symm
          exact W.zret hx hb hr rfl (fun t ht _ => ⟨_, rfl, Option.some.inj h, ht.trans hH⟩) (fun q h => by cases h) dX4_isWhole_20 hlocks
    exact hlp1 _ _ hz1 ls (lv_sub hl [1, 2, 0] rfl)
  exact key s.heap hP rfl
theorem kw_X4_lose_1 : (.fieldLink RX4 28 "BellTheCat$Team" "living" "I" : Cond) ∈ wsX4_lose := List.mem_of_getElem? (i := 1) rfl
theorem kw_X4_lose_2 : (.fieldLink RX4 9 "BellTheCat$Team" "doers" "[I" : Cond) ∈ wsX4_lose := List.mem_of_getElem? (i := 2) rfl
theorem in_X4_lose_X4 : ∀ w ∈ wsX40, w ∈ wsX4_lose := fun w h => List.mem_cons_of_mem _ (List.mem_append_right _ h)
abbrev rm_X4_lose : Room := { frames := 1, cells := 0, slots := 0, locals := 21 }
set_option maxHeartbeats 4000000 in
set_option maxRecDepth 100000 in
theorem c_X4_lose (l : Launch) (D : va_G) (cyI cyZ cyT : ClassId) (qa : Nat → Nat) (sz : Nat) (N : Nat) (a1 : Int32) (vt : Mo) (o : Mo) (hf : f_X4_lose N a1 vt = some o) : Met l yX4_lose wsX4_lose rm_X4_lose (va_Pc [.ref (qa 0), .int a1] (jM D cyI cyZ cyT (wT cyI qa vt) sz)) (jQv D (va_A (wT cyI qa vt) sz) (fun u : Mo => wT cyI qa u) o) 0 0 (va_A (wT cyI qa vt) sz) := by
  refine Met.ofW (cc := cX4_lose) (maxL := 3) (ret := none) (by decide) rfl ?_
  intro p e s m args below meth c s₁ B hml hv
  obtain ⟨rfl, hsz, hP, hK, hD0⟩ := hv
  have hx := B.exec
  have hb := B.bytes
  have hr := B.returns
  have hts := atoms_spec (ws := wsX4_lose) B.pre
  have hown : s.vm.findClass RX4 = some m.cls := findClass_of_methodNamed B.named
  have hlocks := B.notSynchronized
  subst hsz
  have hD := hD0.self (sz := s.heap.size)
  generalize hAe : va_A (wT cyI qa vt) s.heap.size = A at hD ⊢
  have hA : ∀ q : Nat, s.heap.size ≤ q → A q := fun q h => by rw [← hAe]; exact Or.inr h
  have hS : va_S A s.heap s.heap [] := va_S.rf
  have hl := lv_entry ([.ref (qa 0), .int a1]) (n := 3) (Nat.le_of_ble_eq_true rfl)
  rw [lg_entry_eq]
  generalize (lg_sl ([.ref (qa 0), .int a1]) ++ List.replicate (3 - (lg_sl ([.ref (qa 0), .int a1])).length) Slot.unset).toArray = ls at hl ⊢
  have hl : lv_has ls 3 [(0, .ref (qa 0)), (1, .int a1)] := hl
  clear B
  generalize ([.ref (qa 0), .int a1] : List Value).toArray = args at hts ⊢
  have key : ∀ (H : Heap) (locs : List Loc), va_P D vwCl (wT cyI qa vt) H → va_D A (wT cyI qa vt) → va_S A s.heap H locs → W p l e rm_X4_lose s m args below meth c H locs 0 0 (MQ below (jQv D A (fun u : Mo => wT cyI qa u) o) args s 0 0 A) (F0 m 0 ls []) := by
    intro H locs hP hD hS
    have h := hf
    unfold f_X4_lose at h
    refine lv_aload_n hx hb dX4_lose_0 rfl (lv_at hl 0 rfl) ?_
    refine lv_iload_n hx hb dX4_lose_1 rfl (lv_at hl 1 rfl) ?_
    obtain ⟨z1, hz1, h⟩ := jb h
    refine jki (jrV (As := [.int a1]) (rest := []) ⟨hx, hb, hml, hown, hts⟩ (c_X4_lives l D cyI cyZ cyT qa  a1 vt z1 hz1) (cwV 1 hts gX4_lose_X4_lives rfl rfl rfl (by decide +kernel) ⟨Nat.le_of_ble_eq_true rfl, Nat.le_of_ble_eq_true rfl⟩) hK hP rfl 4 0 rfl rfl rfl hl.1 (Nat.le_of_ble_eq_true rfl) dX4_lose_2 ⟨Nat.le_of_ble_eq_true rfl, Nat.le_of_ble_eq_true rfl⟩) ?_
    clear hz1
    refine lv_if_ne (tgt := 9) hx hb dX4_lose_5 (by decide) (fun c2 => ?_) (fun c2 => ?_)
    · have h := jf c2 h
      refine lv_aload_n hx hb dX4_lose_9 rfl (lv_at hl 0 rfl) ?_
      refine lv_dup hx hb dX4_lose_10 rfl ?_
      refine va_get (D := D) (ci := 4) (v := .int (vt.2 1)) (C := RX4) (T := TX4) (N := 4) hx hb hts in_X4_lose_X4 hown hK.1 hP 0 rfl rfl 2 (by decide) (hts _ kw_X4_lose_1) (fun _ h9 => h9) rfl dX4_lose_11 ?_
      refine lv_iconst (v := (1 : Int32)) hx hb dX4_lose_14 (by decide) ?_
      refine lv_iload_n hx hb dX4_lose_15 rfl (lv_at hl 1 rfl) ?_
      refine lv_ishl hx hb dX4_lose_16 ?_
      refine lv_iconst (v := (-1 : Int32)) hx hb dX4_lose_17 (by decide) ?_
      refine lv_ixor hx hb dX4_lose_18 ?_
      refine lv_iand hx hb dX4_lose_19 ?_
      refine va_put (D := D) (ci := 4) (v := .int ((vt.2 1) &&& (((1 : Int32) <<< (a1 &&& 31)) ^^^ (-1 : Int32)))) (ty := .int) (C := RX4) (T := TX4) (N := 4) hx hb hts in_X4_lose_X4 tyX4 tyX4_ok nmX4 hown hK.1 hP hD hS 0 rfl rfl 2 (by decide) (hts _ kw_X4_lose_1) (fun _ h9 => h9) rfl (tyX4_ok 2 (by decide)) rfl rfl (Nat.le_of_ble_eq_true rfl) dX4_lose_20 (fun H locs hP hD hS => ?_)
      have hP : va_P D vwCl (wT cyI qa (vt.1, va_up vt.2 1 ((vt.2 1) &&& (((1 : Int32) <<< (a1 &&& 31)) ^^^ (-1 : Int32))))) H := hP
      have hD : va_D A (wT cyI qa (vt.1, va_up vt.2 1 ((vt.2 1) &&& (((1 : Int32) <<< (a1 &&& 31)) ^^^ (-1 : Int32))))) := hD
      refine lv_iconst (v := (0 : Int32)) hx hb dX4_lose_23 (by decide) ?_
      refine lv_istore_n (lv' := [(2, .int (0 : Int32)), (0, .ref (qa 0)), (1, .int a1)]) hx hb dX4_lose_24 rfl hl (by decide) rfl (fun ls hl => ?_)
      obtain ⟨r3, hz3, h3_⟩ := jb h
      have hex3 : ∀ e3 : Mo, r3 = e3 → ∀ (H : Heap) (locs : List Loc), va_P D vwCl (wT cyI qa e3) H → va_D A (wT cyI qa e3) → va_S A s.heap H locs → ∀ (ls : Array Slot), lv_has ls 3 [] → W p l e rm_X4_lose s m args below meth c H locs 0 0 (MQ below (jQv D A (fun u : Mo => wT cyI qa u) o) args s 0 0 A) (F0 m 53 ls []) := by
        intro e3 he H locs hP hD hS ls hl
        rw [he] at h3_
        have h := h3_
        clear hz3
        exact W.vret hx hb hr (fun t ht _ => ⟨⟨_, rfl, Option.some.inj h, by rw [ht]; exact hP, hD⟩, hS.F ht⟩) hS.2.2 dX4_lose_53 hlocks
      have hlp3 : ∀ (nn : Nat) (z3 : (Int32 × Mo)), jw (X4_lose_s25 a1) nn z3 = some r3 → ∀ (H : Heap) (locs : List Loc), va_P D vwCl (wT cyI qa z3.2) H → va_D A (wT cyI qa z3.2) → va_S A s.heap H locs → ∀ (ls : Array Slot), lv_has ls 3 [(0, .ref (qa 0)), (1, .int a1), (2, .int z3.1)] → W p l e rm_X4_lose s m args below meth c H locs 0 0 (MQ below (jQv D A (fun u : Mo => wT cyI qa u) o) args s 0 0 A) (F0 m 25 ls []) := by
        refine jw_P (r := r3) (P := fun z3 : (Int32 × Mo) => ∀ (H : Heap) (locs : List Loc), va_P D vwCl (wT cyI qa z3.2) H → va_D A (wT cyI qa z3.2) → va_S A s.heap H locs → ∀ (ls : Array Slot), lv_has ls 3 [(0, .ref (qa 0)), (1, .int a1), (2, .int z3.1)] → W p l e rm_X4_lose s m args below meth c H locs 0 0 (MQ below (jQv D A (fun u : Mo => wT cyI qa u) o) args s 0 0 A) (F0 m 25 ls [])) ?_
        intro z3 x3 h hin hout H locs hP hD hS ls hl
        unfold X4_lose_s25 at h
        refine lv_iload_n hx hb dX4_lose_25 rfl (lv_at hl 2 rfl) ?_
        refine lv_iconst (v := (5 : Int32)) hx hb dX4_lose_26 (by decide) ?_
        refine lv_icmp_ge (tgt := 53) hx hb dX4_lose_27 (by decide) (fun c4 => ?_) (fun c4 => ?_)
        · have h := jt c4 h
          exact hex3 _ (hout _ (Option.some.inj h).symm).symm H locs hP hD hS ls (lv_sub hl [] rfl)
        · have h := jf c4 h
          refine lv_aload_n hx hb dX4_lose_30 rfl (lv_at hl 0 rfl) ?_
          refine va_get (D := D) (ci := 4) (v := .ref (qa 1)) (C := RX4) (T := TX4) (N := 4) hx hb hts in_X4_lose_X4 hown hK.1 hP 0 rfl rfl 0 (by decide) (hts _ kw_X4_lose_2) (fun _ h9 => h9) rfl dX4_lose_31 ?_
          refine lv_iload_n hx hb dX4_lose_34 rfl (lv_at hl 2 rfl) ?_
          obtain ⟨g5, h⟩ := jn h
          refine jald hx hb hK hP 1 rfl _ rfl g5 dX4_lose_35 ?_
          refine lv_iload_n hx hb dX4_lose_36 rfl (lv_at hl 1 rfl) ?_
          obtain ⟨z6, hz6, h⟩ := jb h
          have hk6 : ∀ (H : Heap) (locs : List Loc), va_P D vwCl (wT cyI qa z6) H → va_D A (wT cyI qa z6) → va_S A s.heap H locs → ∀ (ls : Array Slot), lv_has ls 3 [(0, .ref (qa 0)), (1, .int a1), (2, .int z3.1)] → W p l e rm_X4_lose s m args below meth c H locs 0 0 (MQ below (jQv D A (fun u : Mo => wT cyI qa u) o) args s 0 0 A) (F0 m 47 ls []) := by
            intro H locs hP hD hS ls hl
            refine lv_iinc (v := z3.1 + (1 : Int32)) (lv' := [(2, .int (z3.1 + (1 : Int32))), (0, .ref (qa 0)), (1, .int a1)]) hx hb dX4_lose_47 hl (k := 2) rfl rfl (by decide) rfl (fun ls hl => ?_)
            refine lv_goto (tgt := 25) hx hb dX4_lose_50 (by decide) ?_
            exact hin _ (Option.some.inj h).symm H locs hP hD hS ls (lv_sub hl [1, 2, 0] rfl)
          clear h
          have h := hz6
          clear hz6
          refine lv_icmp_ne (tgt := 47) hx hb dX4_lose_37 (by decide) (fun c7 => ?_) (fun c7 => ?_)
          · have h := jf c7 h
            obtain rfl := Option.some.inj h
            exact hk6 H locs hP hD hS ls (lv_sub hl [0, 1, 2] rfl)
          · have h := jt c7 h
            refine lv_aload_n hx hb dX4_lose_40 rfl (lv_at hl 0 rfl) ?_
            refine va_get (D := D) (ci := 4) (v := .ref (qa 1)) (C := RX4) (T := TX4) (N := 4) hx hb hts in_X4_lose_X4 hown hK.1 hP 0 rfl rfl 0 (by decide) (hts _ kw_X4_lose_2) (fun _ h9 => h9) rfl dX4_lose_41 ?_
            refine lv_iload_n hx hb dX4_lose_44 rfl (lv_at hl 2 rfl) ?_
            refine lv_iconst (v := (-1 : Int32)) hx hb dX4_lose_45 (by decide) ?_
            obtain ⟨g8, h⟩ := jn h
            refine jast (w' := wT cyI qa (va_up z3.2.1 0 (upd (z3.2.1 0) z3.1.toNatClampNeg (-1 : Int32)), z3.2.2)) hx hb hK hP hD hS 1 rfl _ rfl g8 rfl dX4_lose_46 (fun H locs hP hD hS => ?_)
            obtain rfl := Option.some.inj h
            exact hk6 H locs hP hD hS ls (lv_sub hl [0, 1, 2] rfl)
      exact hlp3 _ _ hz3 H locs hP hD hS ls (lv_sub hl [1, 2, 0] rfl)
    · have h := jt c2 h
      exact W.vret hx hb hr (fun t ht _ => ⟨⟨_, rfl, Option.some.inj h, by rw [ht]; exact hP, hD⟩, hS.F ht⟩) hS.2.2 dX4_lose_8 hlocks
  exact key s.heap [] hP hD hS
theorem kw_X4_setDoer_1 : (.fieldLink RX4 9 "BellTheCat$Team" "doers" "[I" : Cond) ∈ wsX4_setDoer := List.mem_of_getElem? (i := 1) rfl
theorem in_X4_setDoer_X4 : ∀ w ∈ wsX40, w ∈ wsX4_setDoer := fun w h => List.mem_cons_of_mem _ (List.mem_append_right _ h)
abbrev rm_X4_setDoer : Room := { frames := 0, cells := 0, slots := 0, locals := 0 }
set_option maxHeartbeats 4000000 in
set_option maxRecDepth 100000 in
theorem c_X4_setDoer (l : Launch) (D : va_G) (cyI cyZ cyT : ClassId) (qa : Nat → Nat) (sz : Nat) (a1 : Int32) (a2 : Int32) (vt : Mo) (o : Mo) (hf : f_X4_setDoer a1 a2 vt = some o) : Met l yX4_setDoer wsX4_setDoer rm_X4_setDoer (va_Pc [.ref (qa 0), .int a1, .int a2] (jM D cyI cyZ cyT (wT cyI qa vt) sz)) (jQv D (va_A (wT cyI qa vt) sz) (fun u : Mo => wT cyI qa u) o) 0 0 (va_A (wT cyI qa vt) sz) := by
  refine Met.ofW (cc := cX4_setDoer) (maxL := 3) (ret := none) (by decide) rfl ?_
  intro p e s m args below meth c s₁ B hml hv
  obtain ⟨rfl, hsz, hP, hK, hD0⟩ := hv
  have hx := B.exec
  have hb := B.bytes
  have hr := B.returns
  have hts := atoms_spec (ws := wsX4_setDoer) B.pre
  have hown : s.vm.findClass RX4 = some m.cls := findClass_of_methodNamed B.named
  have hlocks := B.notSynchronized
  subst hsz
  have hD := hD0.self (sz := s.heap.size)
  generalize hAe : va_A (wT cyI qa vt) s.heap.size = A at hD ⊢
  have hA : ∀ q : Nat, s.heap.size ≤ q → A q := fun q h => by rw [← hAe]; exact Or.inr h
  have hS : va_S A s.heap s.heap [] := va_S.rf
  have hl := lv_entry ([.ref (qa 0), .int a1, .int a2]) (n := 3) (Nat.le_of_ble_eq_true rfl)
  rw [lg_entry_eq]
  generalize (lg_sl ([.ref (qa 0), .int a1, .int a2]) ++ List.replicate (3 - (lg_sl ([.ref (qa 0), .int a1, .int a2])).length) Slot.unset).toArray = ls at hl ⊢
  have hl : lv_has ls 3 [(0, .ref (qa 0)), (1, .int a1), (2, .int a2)] := hl
  clear B
  generalize ([.ref (qa 0), .int a1, .int a2] : List Value).toArray = args at hts ⊢
  have key : ∀ (H : Heap) (locs : List Loc), va_P D vwCl (wT cyI qa vt) H → va_D A (wT cyI qa vt) → va_S A s.heap H locs → W p l e rm_X4_setDoer s m args below meth c H locs 0 0 (MQ below (jQv D A (fun u : Mo => wT cyI qa u) o) args s 0 0 A) (F0 m 0 ls []) := by
    intro H locs hP hD hS
    have h := hf
    unfold f_X4_setDoer at h
    refine lv_iload_n hx hb dX4_setDoer_0 rfl (lv_at hl 1 rfl) ?_
    refine lv_if_lt (tgt := 16) hx hb dX4_setDoer_1 (by decide) (fun c1 => ?_) (fun c1 => ?_)
    · have h := jt c1 h
      exact W.vret hx hb hr (fun t ht _ => ⟨⟨_, rfl, Option.some.inj h, by rw [ht]; exact hP, hD⟩, hS.F ht⟩) hS.2.2 dX4_setDoer_16 hlocks
    · have h := jf c1 h
      refine lv_iload_n hx hb dX4_setDoer_4 rfl (lv_at hl 1 rfl) ?_
      refine lv_iconst (v := (5 : Int32)) hx hb dX4_setDoer_5 (by decide) ?_
      refine lv_icmp_ge (tgt := 16) hx hb dX4_setDoer_6 (by decide) (fun c2 => ?_) (fun c2 => ?_)
      · have h := jt c2 h
        exact W.vret hx hb hr (fun t ht _ => ⟨⟨_, rfl, Option.some.inj h, by rw [ht]; exact hP, hD⟩, hS.F ht⟩) hS.2.2 dX4_setDoer_16 hlocks
      · have h := jf c2 h
        refine lv_aload_n hx hb dX4_setDoer_9 rfl (lv_at hl 0 rfl) ?_
        refine va_get (D := D) (ci := 4) (v := .ref (qa 1)) (C := RX4) (T := TX4) (N := 4) hx hb hts in_X4_setDoer_X4 hown hK.1 hP 0 rfl rfl 0 (by decide) (hts _ kw_X4_setDoer_1) (fun _ h9 => h9) rfl dX4_setDoer_10 ?_
        refine lv_iload_n hx hb dX4_setDoer_13 rfl (lv_at hl 1 rfl) ?_
        refine lv_iload_n hx hb dX4_setDoer_14 rfl (lv_at hl 2 rfl) ?_
        obtain ⟨g3, h⟩ := jn h
        refine jast (w' := wT cyI qa (va_up vt.1 0 (upd (vt.1 0) a1.toNatClampNeg a2), vt.2)) hx hb hK hP hD hS 1 rfl _ rfl g3 rfl dX4_setDoer_15 (fun H locs hP hD hS => ?_)
        exact W.vret hx hb hr (fun t ht _ => ⟨⟨_, rfl, Option.some.inj h, by rw [ht]; exact hP, hD⟩, hS.F ht⟩) hS.2.2 dX4_setDoer_16 hlocks
  exact key s.heap [] hP hD hS
theorem kw_X4_stepsOf_1 : (.fieldLink RX4 9 "BellTheCat$Team" "doers" "[I" : Cond) ∈ wsX4_stepsOf := List.mem_of_getElem? (i := 1) rfl
theorem in_X4_stepsOf_X4 : ∀ w ∈ wsX40, w ∈ wsX4_stepsOf := fun w h => List.mem_cons_of_mem _ (List.mem_append_right _ h)
abbrev rm_X4_stepsOf : Room := { frames := 0, cells := 0, slots := 0, locals := 0 }
set_option maxHeartbeats 4000000 in
set_option maxRecDepth 100000 in
theorem c_X4_stepsOf (l : Launch) (D : va_G) (cyI cyZ cyT : ClassId) (qa : Nat → Nat) (N : Nat) (a1 : Int32) (vt : Mo) (o : Int32) (hf : f_X4_stepsOf N a1 vt = some o) : Met l yX4_stepsOf wsX4_stepsOf rm_X4_stepsOf (va_Pc [.ref (qa 0), .int a1] (jB D cyI cyZ cyT (wT cyI qa vt))) (jSi o) 0 0 (fun _ => False) := by
  refine Met.ofW (cc := cX4_stepsOf) (maxL := 4) (ret := (some .int)) (by decide) rfl ?_
  intro p e s m args below meth c s₁ B hml hv
  obtain ⟨rfl, hP, hK⟩ := hv
  have hx := B.exec
  have hb := B.bytes
  have hr := B.returns
  have hts := atoms_spec (ws := wsX4_stepsOf) B.pre
  have hown : s.vm.findClass RX4 = some m.cls := findClass_of_methodNamed B.named
  have hlocks := B.notSynchronized
  have hl := lv_entry ([.ref (qa 0), .int a1]) (n := 4) (Nat.le_of_ble_eq_true rfl)
  rw [lg_entry_eq]
  generalize (lg_sl ([.ref (qa 0), .int a1]) ++ List.replicate (4 - (lg_sl ([.ref (qa 0), .int a1])).length) Slot.unset).toArray = ls at hl ⊢
  have hl : lv_has ls 4 [(0, .ref (qa 0)), (1, .int a1)] := hl
  clear B
  generalize ([.ref (qa 0), .int a1] : List Value).toArray = args at hts ⊢
  have key : ∀ (H : Heap), va_P D vwCl (wT cyI qa vt) H → H = s.heap → W p l e rm_X4_stepsOf s m args below meth c H [] 0 0 (MQ below (jSi o) args s 0 0 (fun _ => False)) (F0 m 0 ls []) := by
    intro H hP hH
    have h := hf
    unfold f_X4_stepsOf at h
    refine lv_iconst (v := (0 : Int32)) hx hb dX4_stepsOf_0 (by decide) ?_
    refine lv_istore_n (lv' := [(2, .int (0 : Int32)), (0, .ref (qa 0)), (1, .int a1)]) hx hb dX4_stepsOf_1 rfl hl (by decide) rfl (fun ls hl => ?_)
    refine lv_iconst (v := (0 : Int32)) hx hb dX4_stepsOf_2 (by decide) ?_
    refine lv_istore_n (lv' := [(3, .int (0 : Int32)), (2, .int (0 : Int32)), (0, .ref (qa 0)), (1, .int a1)]) hx hb dX4_stepsOf_3 rfl hl (by decide) rfl (fun ls hl => ?_)
    obtain ⟨r1, hz1, h1_⟩ := jb h
    have hex1 : ∀ e1 : Int32, r1 = e1 → ∀ (ls : Array Slot), lv_has ls 4 [(2, .int e1)] → W p l e rm_X4_stepsOf s m args below meth c H [] 0 0 (MQ below (jSi o) args s 0 0 (fun _ => False)) (F0 m 35 ls []) := by
      intro e1 he ls hl
      rw [he] at h1_
      have h := h1_
      clear hz1
      refine lv_iload_n hx hb dX4_stepsOf_35 rfl (lv_at hl 0 rfl) ?_
      exact W.iret hx hb hr (fun t ht _ => ⟨_, rfl, Option.some.inj h, ht.trans hH⟩) (fun q h => by cases h) dX4_stepsOf_36 hlocks
    have hlp1 : ∀ (nn : Nat) (z1 : (Int32 × Int32)), jw (X4_stepsOf_s4 a1 vt) nn z1 = some r1 → ∀ (ls : Array Slot), lv_has ls 4 [(0, .ref (qa 0)), (1, .int a1), (2, .int z1.1), (3, .int z1.2)] → W p l e rm_X4_stepsOf s m args below meth c H [] 0 0 (MQ below (jSi o) args s 0 0 (fun _ => False)) (F0 m 4 ls []) := by
      refine jw_P (r := r1) (P := fun z1 : (Int32 × Int32) => ∀ (ls : Array Slot), lv_has ls 4 [(0, .ref (qa 0)), (1, .int a1), (2, .int z1.1), (3, .int z1.2)] → W p l e rm_X4_stepsOf s m args below meth c H [] 0 0 (MQ below (jSi o) args s 0 0 (fun _ => False)) (F0 m 4 ls [])) ?_
      intro z1 x1 h hin hout ls hl
      unfold X4_stepsOf_s4 at h
      refine lv_iload_n hx hb dX4_stepsOf_4 rfl (lv_at hl 3 rfl) ?_
      refine lv_iconst (v := (5 : Int32)) hx hb dX4_stepsOf_5 (by decide) ?_
      refine lv_icmp_ge (tgt := 35) hx hb dX4_stepsOf_6 (by decide) (fun c2 => ?_) (fun c2 => ?_)
      · have h := jt c2 h
        exact hex1 _ (hout _ (Option.some.inj h).symm).symm ls (lv_sub hl [2] rfl)
      · have h := jf c2 h
        refine lv_iload_n hx hb dX4_stepsOf_9 rfl (lv_at hl 2 rfl) ?_
        refine lv_aload_n hx hb dX4_stepsOf_10 rfl (lv_at hl 0 rfl) ?_
        refine va_get (D := D) (ci := 4) (v := .ref (qa 1)) (C := RX4) (T := TX4) (N := 4) hx hb hts in_X4_stepsOf_X4 hown hK.1 hP 0 rfl rfl 0 (by decide) (hts _ kw_X4_stepsOf_1) (fun _ h9 => h9) rfl dX4_stepsOf_11 ?_
        refine lv_iload_n hx hb dX4_stepsOf_14 rfl (lv_at hl 3 rfl) ?_
        obtain ⟨g3, h⟩ := jn h
        refine jald hx hb hK hP 1 rfl _ rfl g3 dX4_stepsOf_15 ?_
        refine lv_iload_n hx hb dX4_stepsOf_16 rfl (lv_at hl 1 rfl) ?_
        obtain ⟨z4, hz4, h⟩ := jb h
        have hk4 : ∀ (ls : Array Slot), lv_has ls 4 [(0, .ref (qa 0)), (1, .int a1), (3, .int z1.2)] → W p l e rm_X4_stepsOf s m args below meth c H [] 0 0 (MQ below (jSi o) args s 0 0 (fun _ => False)) (F0 m 27 ls [.int z4, .int z1.1]) := by
          intro ls hl
          refine lv_ior hx hb dX4_stepsOf_27 ?_
          refine lv_istore_n (lv' := [(2, .int (z1.1 ||| z4)), (0, .ref (qa 0)), (1, .int a1), (3, .int z1.2)]) hx hb dX4_stepsOf_28 rfl hl (by decide) rfl (fun ls hl => ?_)
          refine lv_iinc (v := z1.2 + (1 : Int32)) (lv' := [(3, .int (z1.2 + (1 : Int32))), (2, .int (z1.1 ||| z4)), (0, .ref (qa 0)), (1, .int a1)]) hx hb dX4_stepsOf_29 hl (k := 3) rfl rfl (by decide) rfl (fun ls hl => ?_)
          refine lv_goto (tgt := 4) hx hb dX4_stepsOf_32 (by decide) ?_
          exact hin _ (Option.some.inj h).symm ls (lv_sub hl [2, 3, 1, 0] rfl)
        clear h
        have h := hz4
        clear hz4
        refine lv_icmp_ne (tgt := 26) hx hb dX4_stepsOf_17 (by decide) (fun c5 => ?_) (fun c5 => ?_)
        · have h := jf c5 h
          refine lv_iconst (v := (0 : Int32)) hx hb dX4_stepsOf_26 (by decide) ?_
          obtain rfl := Option.some.inj h
          exact hk4 ls (lv_sub hl [0, 1, 3] rfl)
        · have h := jt c5 h
          refine lv_iconst (v := (1 : Int32)) hx hb dX4_stepsOf_20 (by decide) ?_
          refine lv_iload_n hx hb dX4_stepsOf_21 rfl (lv_at hl 3 rfl) ?_
          refine lv_ishl hx hb dX4_stepsOf_22 ?_
          refine lv_goto (tgt := 27) hx hb dX4_stepsOf_23 (by decide) ?_
          obtain rfl := Option.some.inj h
          exact hk4 ls (lv_sub hl [0, 1, 3] rfl)
    exact hlp1 _ _ hz1 ls (lv_sub hl [2, 3, 1, 0] rfl)
  exact key s.heap hP rfl
theorem kw_X5_append_1 : (.fieldLink RX5 18 "BellTheCat$Text" "length" "I" : Cond) ∈ wsX5_append := List.mem_of_getElem? (i := 1) rfl
theorem kw_X5_append_2 : (.fieldLink RX5 9 "BellTheCat$Text" "letters" "[I" : Cond) ∈ wsX5_append := List.mem_of_getElem? (i := 2) rfl
theorem in_X5_append_X5 : ∀ w ∈ wsX50, w ∈ wsX5_append := fun w h => List.mem_cons_of_mem _ (List.mem_append_right _ h)
abbrev rm_X5_append : Room := { frames := 0, cells := 0, slots := 0, locals := 0 }
set_option maxHeartbeats 4000000 in
set_option maxRecDepth 100000 in
theorem c_X5_append (l : Launch) (D : va_G) (cyI cyZ cyT : ClassId) (qa : Nat → Nat) (sz : Nat) (a1 : Int32) (vx : Mo) (o : (Int32 × Mo)) (hf : f_X5_append a1 vx = some o) : Met l yX5_append wsX5_append rm_X5_append (va_Pc [.ref (qa 0), .int a1] (jM D cyI cyZ cyT (wTx cyI qa vx) sz)) (jQi D (va_A (wTx cyI qa vx) sz) (fun u : Mo => wTx cyI qa u) o) 0 0 (va_A (wTx cyI qa vx) sz) := by
  refine Met.ofW (cc := cX5_append) (maxL := 2) (ret := (some .boolean)) (by decide) rfl ?_
  intro p e s m args below meth c s₁ B hml hv
  obtain ⟨rfl, hsz, hP, hK, hD0⟩ := hv
  have hx := B.exec
  have hb := B.bytes
  have hr := B.returns
  have hts := atoms_spec (ws := wsX5_append) B.pre
  have hown : s.vm.findClass RX5 = some m.cls := findClass_of_methodNamed B.named
  have hlocks := B.notSynchronized
  subst hsz
  have hD := hD0.self (sz := s.heap.size)
  generalize hAe : va_A (wTx cyI qa vx) s.heap.size = A at hD ⊢
  have hA : ∀ q : Nat, s.heap.size ≤ q → A q := fun q h => by rw [← hAe]; exact Or.inr h
  have hS : va_S A s.heap s.heap [] := va_S.rf
  have hl := lv_entry ([.ref (qa 0), .int a1]) (n := 2) (Nat.le_of_ble_eq_true rfl)
  rw [lg_entry_eq]
  generalize (lg_sl ([.ref (qa 0), .int a1]) ++ List.replicate (2 - (lg_sl ([.ref (qa 0), .int a1])).length) Slot.unset).toArray = ls at hl ⊢
  have hl : lv_has ls 2 [(0, .ref (qa 0)), (1, .int a1)] := hl
  clear B
  generalize ([.ref (qa 0), .int a1] : List Value).toArray = args at hts ⊢
  have key : ∀ (H : Heap) (locs : List Loc), va_P D vwCl (wTx cyI qa vx) H → va_D A (wTx cyI qa vx) → va_S A s.heap H locs → W p l e rm_X5_append s m args below meth c H locs 0 0 (MQ below (jQi D A (fun u : Mo => wTx cyI qa u) o) args s 0 0 A) (F0 m 0 ls []) := by
    intro H locs hP hD hS
    have h := hf
    unfold f_X5_append at h
    refine lv_aload_n hx hb dX5_append_0 rfl (lv_at hl 0 rfl) ?_
    refine va_get (D := D) (ci := 5) (v := .int (vx.2 0)) (C := RX5) (T := TX5) (N := 6) hx hb hts in_X5_append_X5 hown hK.1 hP 0 rfl rfl 2 (by decide) (hts _ kw_X5_append_1) (fun _ h9 => h9) rfl dX5_append_1 ?_
    refine lv_if_lt (tgt := 17) hx hb dX5_append_4 (by decide) (fun c1 => ?_) (fun c1 => ?_)
    · have h := jt c1 h
      refine lv_iconst (v := (0 : Int32)) hx hb dX5_append_17 (by decide) ?_
      exact W.zret hx hb hr rfl (fun t ht _ => ⟨⟨_, _, rfl, Option.some.inj h, by rw [ht]; exact hP, hD⟩, hS.F ht⟩) hS.2.2 dX5_append_18 hlocks
    · have h := jf c1 h
      refine lv_aload_n hx hb dX5_append_7 rfl (lv_at hl 0 rfl) ?_
      refine va_get (D := D) (ci := 5) (v := .int (vx.2 0)) (C := RX5) (T := TX5) (N := 6) hx hb hts in_X5_append_X5 hown hK.1 hP 0 rfl rfl 2 (by decide) (hts _ kw_X5_append_1) (fun _ h9 => h9) rfl dX5_append_8 ?_
      refine lv_sipush (v := (160 : Int32)) hx hb dX5_append_11 (by decide) ?_
      refine lv_icmp_lt (tgt := 19) hx hb dX5_append_14 (by decide) (fun c2 => ?_) (fun c2 => ?_)
      · have h := jt c2 h
        refine lv_aload_n hx hb dX5_append_19 rfl (lv_at hl 0 rfl) ?_
        refine va_get (D := D) (ci := 5) (v := .ref (qa 1)) (C := RX5) (T := TX5) (N := 6) hx hb hts in_X5_append_X5 hown hK.1 hP 0 rfl rfl 0 (by decide) (hts _ kw_X5_append_2) (fun _ h9 => h9) rfl dX5_append_20 ?_
        refine lv_aload_n hx hb dX5_append_23 rfl (lv_at hl 0 rfl) ?_
        refine lv_dup hx hb dX5_append_24 rfl ?_
        refine va_get (D := D) (ci := 5) (v := .int (vx.2 0)) (C := RX5) (T := TX5) (N := 6) hx hb hts in_X5_append_X5 hown hK.1 hP 0 rfl rfl 2 (by decide) (hts _ kw_X5_append_1) (fun _ h9 => h9) rfl dX5_append_25 ?_
        refine lv_dup_x1 hx hb dX5_append_28 rfl rfl ?_
        refine lv_iconst (v := (1 : Int32)) hx hb dX5_append_29 (by decide) ?_
        refine lv_iadd hx hb dX5_append_30 ?_
        refine va_put (D := D) (ci := 5) (v := .int ((vx.2 0) + (1 : Int32))) (ty := .int) (C := RX5) (T := TX5) (N := 6) hx hb hts in_X5_append_X5 tyX5 tyX5_ok nmX5 hown hK.1 hP hD hS 0 rfl rfl 2 (by decide) (hts _ kw_X5_append_1) (fun _ h9 => h9) rfl (tyX5_ok 2 (by decide)) rfl rfl (Nat.le_of_ble_eq_true rfl) dX5_append_31 (fun H locs hP hD hS => ?_)
        have hP : va_P D vwCl (wTx cyI qa (vx.1, va_up vx.2 0 ((vx.2 0) + (1 : Int32)))) H := hP
        have hD : va_D A (wTx cyI qa (vx.1, va_up vx.2 0 ((vx.2 0) + (1 : Int32)))) := hD
        refine lv_iload_n hx hb dX5_append_34 rfl (lv_at hl 1 rfl) ?_
        obtain ⟨g3, h⟩ := jn h
        refine jast (w' := wTx cyI qa (va_up vx.1 0 (upd (vx.1 0) (vx.2 0).toNatClampNeg a1), va_up vx.2 0 ((vx.2 0) + (1 : Int32)))) hx hb hK hP hD hS 1 rfl _ rfl g3 rfl dX5_append_35 (fun H locs hP hD hS => ?_)
        refine lv_iconst (v := (1 : Int32)) hx hb dX5_append_36 (by decide) ?_
        exact W.zret hx hb hr rfl (fun t ht _ => ⟨⟨_, _, rfl, Option.some.inj h, by rw [ht]; exact hP, hD⟩, hS.F ht⟩) hS.2.2 dX5_append_37 hlocks
      · have h := jf c2 h
        refine lv_iconst (v := (0 : Int32)) hx hb dX5_append_17 (by decide) ?_
        exact W.zret hx hb hr rfl (fun t ht _ => ⟨⟨_, _, rfl, Option.some.inj h, by rw [ht]; exact hP, hD⟩, hS.F ht⟩) hS.2.2 dX5_append_18 hlocks
  exact key s.heap [] hP hD hS
theorem kw_X5_letterAt_1 : (.fieldLink RX5 18 "BellTheCat$Text" "length" "I" : Cond) ∈ wsX5_letterAt := List.mem_of_getElem? (i := 1) rfl
theorem kw_X5_letterAt_2 : (.fieldLink RX5 9 "BellTheCat$Text" "letters" "[I" : Cond) ∈ wsX5_letterAt := List.mem_of_getElem? (i := 2) rfl
theorem in_X5_letterAt_X5 : ∀ w ∈ wsX50, w ∈ wsX5_letterAt := fun w h => List.mem_cons_of_mem _ (List.mem_append_right _ h)
abbrev rm_X5_letterAt : Room := { frames := 0, cells := 0, slots := 0, locals := 0 }
set_option maxHeartbeats 4000000 in
set_option maxRecDepth 100000 in
theorem c_X5_letterAt (l : Launch) (D : va_G) (cyI cyZ cyT : ClassId) (qa : Nat → Nat) (a1 : Int32) (vx : Mo) (o : Int32) (hf : f_X5_letterAt a1 vx = some o) : Met l yX5_letterAt wsX5_letterAt rm_X5_letterAt (va_Pc [.ref (qa 0), .int a1] (jB D cyI cyZ cyT (wTx cyI qa vx))) (jSi o) 0 0 (fun _ => False) := by
  refine Met.ofW (cc := cX5_letterAt) (maxL := 2) (ret := (some .int)) (by decide) rfl ?_
  intro p e s m args below meth c s₁ B hml hv
  obtain ⟨rfl, hP, hK⟩ := hv
  have hx := B.exec
  have hb := B.bytes
  have hr := B.returns
  have hts := atoms_spec (ws := wsX5_letterAt) B.pre
  have hown : s.vm.findClass RX5 = some m.cls := findClass_of_methodNamed B.named
  have hlocks := B.notSynchronized
  have hl := lv_entry ([.ref (qa 0), .int a1]) (n := 2) (Nat.le_of_ble_eq_true rfl)
  rw [lg_entry_eq]
  generalize (lg_sl ([.ref (qa 0), .int a1]) ++ List.replicate (2 - (lg_sl ([.ref (qa 0), .int a1])).length) Slot.unset).toArray = ls at hl ⊢
  have hl : lv_has ls 2 [(0, .ref (qa 0)), (1, .int a1)] := hl
  clear B
  generalize ([.ref (qa 0), .int a1] : List Value).toArray = args at hts ⊢
  have key : ∀ (H : Heap), va_P D vwCl (wTx cyI qa vx) H → H = s.heap → W p l e rm_X5_letterAt s m args below meth c H [] 0 0 (MQ below (jSi o) args s 0 0 (fun _ => False)) (F0 m 0 ls []) := by
    intro H hP hH
    have h := hf
    unfold f_X5_letterAt at h
    refine lv_iload_n hx hb dX5_letterAt_0 rfl (lv_at hl 1 rfl) ?_
    refine lv_if_lt (tgt := 28) hx hb dX5_letterAt_1 (by decide) (fun c1 => ?_) (fun c1 => ?_)
    · have h := jt c1 h
      refine lv_iconst (v := (-1 : Int32)) hx hb dX5_letterAt_28 (by decide) ?_
      exact W.iret hx hb hr (fun t ht _ => ⟨_, rfl, Option.some.inj h, ht.trans hH⟩) (fun q h => by cases h) dX5_letterAt_29 hlocks
    · have h := jf c1 h
      refine lv_iload_n hx hb dX5_letterAt_4 rfl (lv_at hl 1 rfl) ?_
      refine lv_aload_n hx hb dX5_letterAt_5 rfl (lv_at hl 0 rfl) ?_
      refine va_get (D := D) (ci := 5) (v := .int (vx.2 0)) (C := RX5) (T := TX5) (N := 6) hx hb hts in_X5_letterAt_X5 hown hK.1 hP 0 rfl rfl 2 (by decide) (hts _ kw_X5_letterAt_1) (fun _ h9 => h9) rfl dX5_letterAt_6 ?_
      refine lv_icmp_ge (tgt := 28) hx hb dX5_letterAt_9 (by decide) (fun c2 => ?_) (fun c2 => ?_)
      · have h := jt c2 h
        refine lv_iconst (v := (-1 : Int32)) hx hb dX5_letterAt_28 (by decide) ?_
        exact W.iret hx hb hr (fun t ht _ => ⟨_, rfl, Option.some.inj h, ht.trans hH⟩) (fun q h => by cases h) dX5_letterAt_29 hlocks
      · have h := jf c2 h
        refine lv_iload_n hx hb dX5_letterAt_12 rfl (lv_at hl 1 rfl) ?_
        refine lv_sipush (v := (160 : Int32)) hx hb dX5_letterAt_13 (by decide) ?_
        refine lv_icmp_ge (tgt := 28) hx hb dX5_letterAt_16 (by decide) (fun c3 => ?_) (fun c3 => ?_)
        · have h := jt c3 h
          refine lv_iconst (v := (-1 : Int32)) hx hb dX5_letterAt_28 (by decide) ?_
          exact W.iret hx hb hr (fun t ht _ => ⟨_, rfl, Option.some.inj h, ht.trans hH⟩) (fun q h => by cases h) dX5_letterAt_29 hlocks
        · have h := jf c3 h
          refine lv_aload_n hx hb dX5_letterAt_19 rfl (lv_at hl 0 rfl) ?_
          refine va_get (D := D) (ci := 5) (v := .ref (qa 1)) (C := RX5) (T := TX5) (N := 6) hx hb hts in_X5_letterAt_X5 hown hK.1 hP 0 rfl rfl 0 (by decide) (hts _ kw_X5_letterAt_2) (fun _ h9 => h9) rfl dX5_letterAt_20 ?_
          refine lv_iload_n hx hb dX5_letterAt_23 rfl (lv_at hl 1 rfl) ?_
          obtain ⟨g4, h⟩ := jn h
          refine jald hx hb hK hP 1 rfl _ rfl g4 dX5_letterAt_24 ?_
          refine lv_goto (tgt := 29) hx hb dX5_letterAt_25 (by decide) ?_
          exact W.iret hx hb hr (fun t ht _ => ⟨_, rfl, Option.some.inj h, ht.trans hH⟩) (fun q h => by cases h) dX5_letterAt_29 hlocks
  exact key s.heap hP rfl
theorem kw_X5_endOfBlanks_1 : (.fieldLink RX5 18 "BellTheCat$Text" "length" "I" : Cond) ∈ wsX5_endOfBlanks := List.mem_of_getElem? (i := 1) rfl
theorem in_X5_endOfBlanks_X5 : ∀ w ∈ wsX50, w ∈ wsX5_endOfBlanks := fun w h => List.mem_cons_of_mem _ (List.mem_append_right _ h)
abbrev rm_X5_endOfBlanks : Room := { frames := 1, cells := 0, slots := 0, locals := 21 }
set_option maxHeartbeats 4000000 in
set_option maxRecDepth 100000 in
theorem c_X5_endOfBlanks (l : Launch) (D : va_G) (cyI cyZ cyT : ClassId) (qa : Nat → Nat) (N : Nat) (a1 : Int32) (vx : Mo) (o : Int32) (hf : f_X5_endOfBlanks N a1 vx = some o) : Met l yX5_endOfBlanks wsX5_endOfBlanks rm_X5_endOfBlanks (va_Pc [.ref (qa 0), .int a1] (jB D cyI cyZ cyT (wTx cyI qa vx))) (jSi o) 0 0 (fun _ => False) := by
  refine Met.ofW (cc := cX5_endOfBlanks) (maxL := 3) (ret := (some .int)) (by decide) rfl ?_
  intro p e s m args below meth c s₁ B hml hv
  obtain ⟨rfl, hP, hK⟩ := hv
  have hx := B.exec
  have hb := B.bytes
  have hr := B.returns
  have hts := atoms_spec (ws := wsX5_endOfBlanks) B.pre
  have hown : s.vm.findClass RX5 = some m.cls := findClass_of_methodNamed B.named
  have hlocks := B.notSynchronized
  have hl := lv_entry ([.ref (qa 0), .int a1]) (n := 3) (Nat.le_of_ble_eq_true rfl)
  rw [lg_entry_eq]
  generalize (lg_sl ([.ref (qa 0), .int a1]) ++ List.replicate (3 - (lg_sl ([.ref (qa 0), .int a1])).length) Slot.unset).toArray = ls at hl ⊢
  have hl : lv_has ls 3 [(0, .ref (qa 0)), (1, .int a1)] := hl
  clear B
  generalize ([.ref (qa 0), .int a1] : List Value).toArray = args at hts ⊢
  have key : ∀ (H : Heap), va_P D vwCl (wTx cyI qa vx) H → H = s.heap → W p l e rm_X5_endOfBlanks s m args below meth c H [] 0 0 (MQ below (jSi o) args s 0 0 (fun _ => False)) (F0 m 0 ls []) := by
    intro H hP hH
    have h := hf
    unfold f_X5_endOfBlanks at h
    refine lv_iload_n hx hb dX5_endOfBlanks_0 rfl (lv_at hl 1 rfl) ?_
    refine lv_istore_n (lv' := [(2, .int a1), (0, .ref (qa 0)), (1, .int a1)]) hx hb dX5_endOfBlanks_1 rfl hl (by decide) rfl (fun ls hl => ?_)
    obtain ⟨r1, hz1, h1_⟩ := jb h
    have hex1 : ∀ e1 : Int32, r1 = e1 → ∀ (ls : Array Slot), lv_has ls 3 [(2, .int e1)] → W p l e rm_X5_endOfBlanks s m args below meth c H [] 0 0 (MQ below (jSi o) args s 0 0 (fun _ => False)) (F0 m 26 ls []) := by
      intro e1 he ls hl
      rw [he] at h1_
      have h := h1_
      clear hz1
      refine lv_iload_n hx hb dX5_endOfBlanks_26 rfl (lv_at hl 0 rfl) ?_
      exact W.iret hx hb hr (fun t ht _ => ⟨_, rfl, Option.some.inj h, ht.trans hH⟩) (fun q h => by cases h) dX5_endOfBlanks_27 hlocks
    have hlp1 : ∀ (nn : Nat) (z1 : Int32), jw (X5_endOfBlanks_s2 vx) nn z1 = some r1 → ∀ (ls : Array Slot), lv_has ls 3 [(0, .ref (qa 0)), (2, .int z1)] → W p l e rm_X5_endOfBlanks s m args below meth c H [] 0 0 (MQ below (jSi o) args s 0 0 (fun _ => False)) (F0 m 2 ls []) := by
      refine jw_P (r := r1) (P := fun z1 : Int32 => ∀ (ls : Array Slot), lv_has ls 3 [(0, .ref (qa 0)), (2, .int z1)] → W p l e rm_X5_endOfBlanks s m args below meth c H [] 0 0 (MQ below (jSi o) args s 0 0 (fun _ => False)) (F0 m 2 ls [])) ?_
      intro z1 x1 h hin hout ls hl
      unfold X5_endOfBlanks_s2 at h
      refine lv_iload_n hx hb dX5_endOfBlanks_2 rfl (lv_at hl 1 rfl) ?_
      refine lv_aload_n hx hb dX5_endOfBlanks_3 rfl (lv_at hl 0 rfl) ?_
      refine va_get (D := D) (ci := 5) (v := .int (vx.2 0)) (C := RX5) (T := TX5) (N := 6) hx hb hts in_X5_endOfBlanks_X5 hown hK.1 hP 0 rfl rfl 2 (by decide) (hts _ kw_X5_endOfBlanks_1) (fun _ h9 => h9) rfl dX5_endOfBlanks_4 ?_
      refine lv_icmp_ge (tgt := 26) hx hb dX5_endOfBlanks_7 (by decide) (fun c2 => ?_) (fun c2 => ?_)
      · have h := jt c2 h
        exact hex1 _ (hout _ (Option.some.inj h).symm).symm ls (lv_sub hl [1] rfl)
      · have h := jf c2 h
        refine lv_aload_n hx hb dX5_endOfBlanks_10 rfl (lv_at hl 0 rfl) ?_
        refine lv_iload_n hx hb dX5_endOfBlanks_11 rfl (lv_at hl 1 rfl) ?_
        obtain ⟨z3, hz3, h⟩ := jb h
        refine jki (jrV (As := [.int z1]) (rest := []) ⟨hx, hb, hml, hown, hts⟩ (c_X5_letterAt l D cyI cyZ cyT qa  z1 vx z3 hz3) (cwV 1 hts gX5_endOfBlanks_X5_letterAt rfl rfl rfl (by decide +kernel) ⟨Nat.le_of_ble_eq_true rfl, Nat.le_of_ble_eq_true rfl⟩) hK hP rfl 5 0 rfl rfl rfl hl.1 (Nat.le_of_ble_eq_true rfl) dX5_endOfBlanks_12 ⟨Nat.le_of_ble_eq_true rfl, Nat.le_of_ble_eq_true rfl⟩) ?_
        clear hz3
        refine lv_bipush (v := (32 : Int32)) hx hb dX5_endOfBlanks_15 (by decide) ?_
        refine lv_icmp_ne (tgt := 26) hx hb dX5_endOfBlanks_17 (by decide) (fun c4 => ?_) (fun c4 => ?_)
        · have h := jf c4 h
          exact hex1 _ (hout _ (Option.some.inj h).symm).symm ls (lv_sub hl [1] rfl)
        · have h := jt c4 h
          refine lv_iinc (v := z1 + (1 : Int32)) (lv' := [(2, .int (z1 + (1 : Int32))), (0, .ref (qa 0))]) hx hb dX5_endOfBlanks_20 hl (k := 1) rfl rfl (by decide) rfl (fun ls hl => ?_)
          refine lv_goto (tgt := 2) hx hb dX5_endOfBlanks_23 (by decide) ?_
          exact hin _ (Option.some.inj h).symm ls (lv_sub hl [1, 0] rfl)
    exact hlp1 _ _ hz1 ls (lv_sub hl [1, 0] rfl)
  exact key s.heap hP rfl
abbrev rm_X5_isDigit : Room := { frames := 0, cells := 0, slots := 0, locals := 0 }
set_option maxHeartbeats 4000000 in
set_option maxRecDepth 100000 in
theorem c_X5_isDigit (l : Launch) (D : va_G) (cyI cyZ cyT : ClassId) (a0 : Int32) (o : Int32) (hf : f_X5_isDigit a0 = some o) : Met l yX5_isDigit wsX5_isDigit rm_X5_isDigit (va_Pc [.int a0] (jB D cyI cyZ cyT ([]))) (jSi o) 0 0 (fun _ => False) := by
  refine Met.ofW (cc := cX5_isDigit) (maxL := 1) (ret := (some .boolean)) (by decide) rfl ?_
  intro p e s m args below meth c s₁ B hml hv
  obtain ⟨rfl, hP, hK⟩ := hv
  have hx := B.exec
  have hb := B.bytes
  have hr := B.returns
  have hts := atoms_spec (ws := wsX5_isDigit) B.pre
  have hown : s.vm.findClass RX5 = some m.cls := findClass_of_methodNamed B.named
  have hlocks := B.notSynchronized
  have hl := lv_entry ([.int a0]) (n := 1) (Nat.le_of_ble_eq_true rfl)
  rw [lg_entry_eq]
  generalize (lg_sl ([.int a0]) ++ List.replicate (1 - (lg_sl ([.int a0])).length) Slot.unset).toArray = ls at hl ⊢
  have hl : lv_has ls 1 [(0, .int a0)] := hl
  clear B
  generalize ([.int a0] : List Value).toArray = args at hts ⊢
  have key : ∀ (H : Heap), va_P D vwCl ([]) H → H = s.heap → W p l e rm_X5_isDigit s m args below meth c H [] 0 0 (MQ below (jSi o) args s 0 0 (fun _ => False)) (F0 m 0 ls []) := by
    intro H hP hH
    have h := hf
    unfold f_X5_isDigit at h
    refine lv_iload_n hx hb dX5_isDigit_0 rfl (lv_at hl 0 rfl) ?_
    refine lv_bipush (v := (48 : Int32)) hx hb dX5_isDigit_1 (by decide) ?_
    refine lv_icmp_lt (tgt := 16) hx hb dX5_isDigit_3 (by decide) (fun c1 => ?_) (fun c1 => ?_)
    · have h := jt c1 h
      refine lv_iconst (v := (0 : Int32)) hx hb dX5_isDigit_16 (by decide) ?_
      exact W.zret hx hb hr rfl (fun t ht _ => ⟨_, rfl, Option.some.inj h, ht.trans hH⟩) (fun q h => by cases h) dX5_isDigit_17 hlocks
    · have h := jf c1 h
      refine lv_iload_n hx hb dX5_isDigit_6 rfl (lv_at hl 0 rfl) ?_
      refine lv_bipush (v := (57 : Int32)) hx hb dX5_isDigit_7 (by decide) ?_
      refine lv_icmp_gt (tgt := 16) hx hb dX5_isDigit_9 (by decide) (fun c2 => ?_) (fun c2 => ?_)
      · have h := jt c2 h
        refine lv_iconst (v := (0 : Int32)) hx hb dX5_isDigit_16 (by decide) ?_
        exact W.zret hx hb hr rfl (fun t ht _ => ⟨_, rfl, Option.some.inj h, ht.trans hH⟩) (fun q h => by cases h) dX5_isDigit_17 hlocks
      · have h := jf c2 h
        refine lv_iconst (v := (1 : Int32)) hx hb dX5_isDigit_12 (by decide) ?_
        refine lv_goto (tgt := 17) hx hb dX5_isDigit_13 (by decide) ?_
        exact W.zret hx hb hr rfl (fun t ht _ => ⟨_, rfl, Option.some.inj h, ht.trans hH⟩) (fun q h => by cases h) dX5_isDigit_17 hlocks
  exact key s.heap hP rfl
theorem kw_X5_endOfNumber_1 : (.fieldLink RX5 18 "BellTheCat$Text" "length" "I" : Cond) ∈ wsX5_endOfNumber := List.mem_of_getElem? (i := 1) rfl
theorem in_X5_endOfNumber_X5 : ∀ w ∈ wsX50, w ∈ wsX5_endOfNumber := fun w h => List.mem_cons_of_mem _ (List.mem_append_right _ h)
abbrev rm_X5_endOfNumber : Room := { frames := 1, cells := 0, slots := 0, locals := 21 }
set_option maxHeartbeats 4000000 in
set_option maxRecDepth 100000 in
theorem c_X5_endOfNumber (l : Launch) (D : va_G) (cyI cyZ cyT : ClassId) (qa : Nat → Nat) (N : Nat) (a1 : Int32) (vx : Mo) (o : Int32) (hf : f_X5_endOfNumber N a1 vx = some o) : Met l yX5_endOfNumber wsX5_endOfNumber rm_X5_endOfNumber (va_Pc [.ref (qa 0), .int a1] (jB D cyI cyZ cyT (wTx cyI qa vx))) (jSi o) 0 0 (fun _ => False) := by
  refine Met.ofW (cc := cX5_endOfNumber) (maxL := 3) (ret := (some .int)) (by decide) rfl ?_
  intro p e s m args below meth c s₁ B hml hv
  obtain ⟨rfl, hP, hK⟩ := hv
  have hx := B.exec
  have hb := B.bytes
  have hr := B.returns
  have hts := atoms_spec (ws := wsX5_endOfNumber) B.pre
  have hown : s.vm.findClass RX5 = some m.cls := findClass_of_methodNamed B.named
  have hlocks := B.notSynchronized
  have hl := lv_entry ([.ref (qa 0), .int a1]) (n := 3) (Nat.le_of_ble_eq_true rfl)
  rw [lg_entry_eq]
  generalize (lg_sl ([.ref (qa 0), .int a1]) ++ List.replicate (3 - (lg_sl ([.ref (qa 0), .int a1])).length) Slot.unset).toArray = ls at hl ⊢
  have hl : lv_has ls 3 [(0, .ref (qa 0)), (1, .int a1)] := hl
  clear B
  generalize ([.ref (qa 0), .int a1] : List Value).toArray = args at hts ⊢
  have key : ∀ (H : Heap), va_P D vwCl (wTx cyI qa vx) H → H = s.heap → W p l e rm_X5_endOfNumber s m args below meth c H [] 0 0 (MQ below (jSi o) args s 0 0 (fun _ => False)) (F0 m 0 ls []) := by
    intro H hP hH
    have h := hf
    unfold f_X5_endOfNumber at h
    refine lv_iload_n hx hb dX5_endOfNumber_0 rfl (lv_at hl 1 rfl) ?_
    refine lv_istore_n (lv' := [(2, .int a1), (0, .ref (qa 0)), (1, .int a1)]) hx hb dX5_endOfNumber_1 rfl hl (by decide) rfl (fun ls hl => ?_)
    obtain ⟨r1, hz1, h1_⟩ := jb h
    have hex1 : ∀ e1 : Int32, r1 = e1 → ∀ (ls : Array Slot), lv_has ls 3 [(2, .int e1)] → W p l e rm_X5_endOfNumber s m args below meth c H [] 0 0 (MQ below (jSi o) args s 0 0 (fun _ => False)) (F0 m 27 ls []) := by
      intro e1 he ls hl
      rw [he] at h1_
      have h := h1_
      clear hz1
      refine lv_iload_n hx hb dX5_endOfNumber_27 rfl (lv_at hl 0 rfl) ?_
      exact W.iret hx hb hr (fun t ht _ => ⟨_, rfl, Option.some.inj h, ht.trans hH⟩) (fun q h => by cases h) dX5_endOfNumber_28 hlocks
    have hlp1 : ∀ (nn : Nat) (z1 : Int32), jw (X5_endOfNumber_s2 vx) nn z1 = some r1 → ∀ (ls : Array Slot), lv_has ls 3 [(0, .ref (qa 0)), (2, .int z1)] → W p l e rm_X5_endOfNumber s m args below meth c H [] 0 0 (MQ below (jSi o) args s 0 0 (fun _ => False)) (F0 m 2 ls []) := by
      refine jw_P (r := r1) (P := fun z1 : Int32 => ∀ (ls : Array Slot), lv_has ls 3 [(0, .ref (qa 0)), (2, .int z1)] → W p l e rm_X5_endOfNumber s m args below meth c H [] 0 0 (MQ below (jSi o) args s 0 0 (fun _ => False)) (F0 m 2 ls [])) ?_
      intro z1 x1 h hin hout ls hl
      unfold X5_endOfNumber_s2 at h
      refine lv_iload_n hx hb dX5_endOfNumber_2 rfl (lv_at hl 1 rfl) ?_
      refine lv_aload_n hx hb dX5_endOfNumber_3 rfl (lv_at hl 0 rfl) ?_
      refine va_get (D := D) (ci := 5) (v := .int (vx.2 0)) (C := RX5) (T := TX5) (N := 6) hx hb hts in_X5_endOfNumber_X5 hown hK.1 hP 0 rfl rfl 2 (by decide) (hts _ kw_X5_endOfNumber_1) (fun _ h9 => h9) rfl dX5_endOfNumber_4 ?_
      refine lv_icmp_ge (tgt := 27) hx hb dX5_endOfNumber_7 (by decide) (fun c2 => ?_) (fun c2 => ?_)
      · have h := jt c2 h
        exact hex1 _ (hout _ (Option.some.inj h).symm).symm ls (lv_sub hl [1] rfl)
      · have h := jf c2 h
        refine lv_aload_n hx hb dX5_endOfNumber_10 rfl (lv_at hl 0 rfl) ?_
        refine lv_iload_n hx hb dX5_endOfNumber_11 rfl (lv_at hl 1 rfl) ?_
        obtain ⟨z3, hz3, h⟩ := jb h
        refine jki (jrV (As := [.int z1]) (rest := []) ⟨hx, hb, hml, hown, hts⟩ (c_X5_letterAt l D cyI cyZ cyT qa  z1 vx z3 hz3) (cwV 1 hts gX5_endOfNumber_X5_letterAt rfl rfl rfl (by decide +kernel) ⟨Nat.le_of_ble_eq_true rfl, Nat.le_of_ble_eq_true rfl⟩) hK hP rfl 5 0 rfl rfl rfl hl.1 (Nat.le_of_ble_eq_true rfl) dX5_endOfNumber_12 ⟨Nat.le_of_ble_eq_true rfl, Nat.le_of_ble_eq_true rfl⟩) ?_
        clear hz3
        obtain ⟨z4, hz4, h⟩ := jb h
        refine jki (jrS (As := [.int z3]) (rest := []) ⟨hx, hb, hml, hown, hts⟩ (c_X5_isDigit l D cyI cyZ cyT   z3 z4 hz4) (va_cwS 1 hts gX5_endOfNumber_X5_isDigit rfl rfl rfl (by decide +kernel) ⟨Nat.le_of_ble_eq_true rfl, Nat.le_of_ble_eq_true rfl⟩) hK jP0 rfl rfl hl.1 (Nat.le_of_ble_eq_true rfl) dX5_endOfNumber_15 ⟨Nat.le_of_ble_eq_true rfl, Nat.le_of_ble_eq_true rfl⟩) ?_
        clear hz4
        refine lv_if_eq (tgt := 27) hx hb dX5_endOfNumber_18 (by decide) (fun c5 => ?_) (fun c5 => ?_)
        · have h := jt c5 h
          exact hex1 _ (hout _ (Option.some.inj h).symm).symm ls (lv_sub hl [1] rfl)
        · have h := jf c5 h
          refine lv_iinc (v := z1 + (1 : Int32)) (lv' := [(2, .int (z1 + (1 : Int32))), (0, .ref (qa 0))]) hx hb dX5_endOfNumber_21 hl (k := 1) rfl rfl (by decide) rfl (fun ls hl => ?_)
          refine lv_goto (tgt := 2) hx hb dX5_endOfNumber_24 (by decide) ?_
          exact hin _ (Option.some.inj h).symm ls (lv_sub hl [1, 0] rfl)
    exact hlp1 _ _ hz1 ls (lv_sub hl [1, 0] rfl)
  exact key s.heap hP rfl
abbrev rm_X5_isSmall : Room := { frames := 0, cells := 0, slots := 0, locals := 0 }
set_option maxHeartbeats 4000000 in
set_option maxRecDepth 100000 in
theorem c_X5_isSmall (l : Launch) (D : va_G) (cyI cyZ cyT : ClassId) (a0 : Int32) (o : Int32) (hf : f_X5_isSmall a0 = some o) : Met l yX5_isSmall wsX5_isSmall rm_X5_isSmall (va_Pc [.int a0] (jB D cyI cyZ cyT ([]))) (jSi o) 0 0 (fun _ => False) := by
  refine Met.ofW (cc := cX5_isSmall) (maxL := 1) (ret := (some .boolean)) (by decide) rfl ?_
  intro p e s m args below meth c s₁ B hml hv
  obtain ⟨rfl, hP, hK⟩ := hv
  have hx := B.exec
  have hb := B.bytes
  have hr := B.returns
  have hts := atoms_spec (ws := wsX5_isSmall) B.pre
  have hown : s.vm.findClass RX5 = some m.cls := findClass_of_methodNamed B.named
  have hlocks := B.notSynchronized
  have hl := lv_entry ([.int a0]) (n := 1) (Nat.le_of_ble_eq_true rfl)
  rw [lg_entry_eq]
  generalize (lg_sl ([.int a0]) ++ List.replicate (1 - (lg_sl ([.int a0])).length) Slot.unset).toArray = ls at hl ⊢
  have hl : lv_has ls 1 [(0, .int a0)] := hl
  clear B
  generalize ([.int a0] : List Value).toArray = args at hts ⊢
  have key : ∀ (H : Heap), va_P D vwCl ([]) H → H = s.heap → W p l e rm_X5_isSmall s m args below meth c H [] 0 0 (MQ below (jSi o) args s 0 0 (fun _ => False)) (F0 m 0 ls []) := by
    intro H hP hH
    have h := hf
    unfold f_X5_isSmall at h
    refine lv_iload_n hx hb dX5_isSmall_0 rfl (lv_at hl 0 rfl) ?_
    refine lv_bipush (v := (97 : Int32)) hx hb dX5_isSmall_1 (by decide) ?_
    refine lv_icmp_lt (tgt := 16) hx hb dX5_isSmall_3 (by decide) (fun c1 => ?_) (fun c1 => ?_)
    · have h := jt c1 h
      refine lv_iconst (v := (0 : Int32)) hx hb dX5_isSmall_16 (by decide) ?_
      exact W.zret hx hb hr rfl (fun t ht _ => ⟨_, rfl, Option.some.inj h, ht.trans hH⟩) (fun q h => by cases h) dX5_isSmall_17 hlocks
    · have h := jf c1 h
      refine lv_iload_n hx hb dX5_isSmall_6 rfl (lv_at hl 0 rfl) ?_
      refine lv_bipush (v := (122 : Int32)) hx hb dX5_isSmall_7 (by decide) ?_
      refine lv_icmp_gt (tgt := 16) hx hb dX5_isSmall_9 (by decide) (fun c2 => ?_) (fun c2 => ?_)
      · have h := jt c2 h
        refine lv_iconst (v := (0 : Int32)) hx hb dX5_isSmall_16 (by decide) ?_
        exact W.zret hx hb hr rfl (fun t ht _ => ⟨_, rfl, Option.some.inj h, ht.trans hH⟩) (fun q h => by cases h) dX5_isSmall_17 hlocks
      · have h := jf c2 h
        refine lv_iconst (v := (1 : Int32)) hx hb dX5_isSmall_12 (by decide) ?_
        refine lv_goto (tgt := 17) hx hb dX5_isSmall_13 (by decide) ?_
        exact W.zret hx hb hr rfl (fun t ht _ => ⟨_, rfl, Option.some.inj h, ht.trans hH⟩) (fun q h => by cases h) dX5_isSmall_17 hlocks
  exact key s.heap hP rfl
theorem kw_X5_endOfWord_1 : (.fieldLink RX5 18 "BellTheCat$Text" "length" "I" : Cond) ∈ wsX5_endOfWord := List.mem_of_getElem? (i := 1) rfl
theorem in_X5_endOfWord_X5 : ∀ w ∈ wsX50, w ∈ wsX5_endOfWord := fun w h => List.mem_cons_of_mem _ (List.mem_append_right _ h)
abbrev rm_X5_endOfWord : Room := { frames := 1, cells := 0, slots := 0, locals := 21 }
set_option maxHeartbeats 4000000 in
set_option maxRecDepth 100000 in
theorem c_X5_endOfWord (l : Launch) (D : va_G) (cyI cyZ cyT : ClassId) (qa : Nat → Nat) (N : Nat) (a1 : Int32) (vx : Mo) (o : Int32) (hf : f_X5_endOfWord N a1 vx = some o) : Met l yX5_endOfWord wsX5_endOfWord rm_X5_endOfWord (va_Pc [.ref (qa 0), .int a1] (jB D cyI cyZ cyT (wTx cyI qa vx))) (jSi o) 0 0 (fun _ => False) := by
  refine Met.ofW (cc := cX5_endOfWord) (maxL := 3) (ret := (some .int)) (by decide) rfl ?_
  intro p e s m args below meth c s₁ B hml hv
  obtain ⟨rfl, hP, hK⟩ := hv
  have hx := B.exec
  have hb := B.bytes
  have hr := B.returns
  have hts := atoms_spec (ws := wsX5_endOfWord) B.pre
  have hown : s.vm.findClass RX5 = some m.cls := findClass_of_methodNamed B.named
  have hlocks := B.notSynchronized
  have hl := lv_entry ([.ref (qa 0), .int a1]) (n := 3) (Nat.le_of_ble_eq_true rfl)
  rw [lg_entry_eq]
  generalize (lg_sl ([.ref (qa 0), .int a1]) ++ List.replicate (3 - (lg_sl ([.ref (qa 0), .int a1])).length) Slot.unset).toArray = ls at hl ⊢
  have hl : lv_has ls 3 [(0, .ref (qa 0)), (1, .int a1)] := hl
  clear B
  generalize ([.ref (qa 0), .int a1] : List Value).toArray = args at hts ⊢
  have key : ∀ (H : Heap), va_P D vwCl (wTx cyI qa vx) H → H = s.heap → W p l e rm_X5_endOfWord s m args below meth c H [] 0 0 (MQ below (jSi o) args s 0 0 (fun _ => False)) (F0 m 0 ls []) := by
    intro H hP hH
    have h := hf
    unfold f_X5_endOfWord at h
    refine lv_iload_n hx hb dX5_endOfWord_0 rfl (lv_at hl 1 rfl) ?_
    refine lv_istore_n (lv' := [(2, .int a1), (0, .ref (qa 0)), (1, .int a1)]) hx hb dX5_endOfWord_1 rfl hl (by decide) rfl (fun ls hl => ?_)
    obtain ⟨r1, hz1, h1_⟩ := jb h
    have hex1 : ∀ e1 : Int32, r1 = e1 → ∀ (ls : Array Slot), lv_has ls 3 [(2, .int e1)] → W p l e rm_X5_endOfWord s m args below meth c H [] 0 0 (MQ below (jSi o) args s 0 0 (fun _ => False)) (F0 m 27 ls []) := by
      intro e1 he ls hl
      rw [he] at h1_
      have h := h1_
      clear hz1
      refine lv_iload_n hx hb dX5_endOfWord_27 rfl (lv_at hl 0 rfl) ?_
      exact W.iret hx hb hr (fun t ht _ => ⟨_, rfl, Option.some.inj h, ht.trans hH⟩) (fun q h => by cases h) dX5_endOfWord_28 hlocks
    have hlp1 : ∀ (nn : Nat) (z1 : Int32), jw (X5_endOfWord_s2 vx) nn z1 = some r1 → ∀ (ls : Array Slot), lv_has ls 3 [(0, .ref (qa 0)), (2, .int z1)] → W p l e rm_X5_endOfWord s m args below meth c H [] 0 0 (MQ below (jSi o) args s 0 0 (fun _ => False)) (F0 m 2 ls []) := by
      refine jw_P (r := r1) (P := fun z1 : Int32 => ∀ (ls : Array Slot), lv_has ls 3 [(0, .ref (qa 0)), (2, .int z1)] → W p l e rm_X5_endOfWord s m args below meth c H [] 0 0 (MQ below (jSi o) args s 0 0 (fun _ => False)) (F0 m 2 ls [])) ?_
      intro z1 x1 h hin hout ls hl
      unfold X5_endOfWord_s2 at h
      refine lv_iload_n hx hb dX5_endOfWord_2 rfl (lv_at hl 1 rfl) ?_
      refine lv_aload_n hx hb dX5_endOfWord_3 rfl (lv_at hl 0 rfl) ?_
      refine va_get (D := D) (ci := 5) (v := .int (vx.2 0)) (C := RX5) (T := TX5) (N := 6) hx hb hts in_X5_endOfWord_X5 hown hK.1 hP 0 rfl rfl 2 (by decide) (hts _ kw_X5_endOfWord_1) (fun _ h9 => h9) rfl dX5_endOfWord_4 ?_
      refine lv_icmp_ge (tgt := 27) hx hb dX5_endOfWord_7 (by decide) (fun c2 => ?_) (fun c2 => ?_)
      · have h := jt c2 h
        exact hex1 _ (hout _ (Option.some.inj h).symm).symm ls (lv_sub hl [1] rfl)
      · have h := jf c2 h
        refine lv_aload_n hx hb dX5_endOfWord_10 rfl (lv_at hl 0 rfl) ?_
        refine lv_iload_n hx hb dX5_endOfWord_11 rfl (lv_at hl 1 rfl) ?_
        obtain ⟨z3, hz3, h⟩ := jb h
        refine jki (jrV (As := [.int z1]) (rest := []) ⟨hx, hb, hml, hown, hts⟩ (c_X5_letterAt l D cyI cyZ cyT qa  z1 vx z3 hz3) (cwV 1 hts gX5_endOfWord_X5_letterAt rfl rfl rfl (by decide +kernel) ⟨Nat.le_of_ble_eq_true rfl, Nat.le_of_ble_eq_true rfl⟩) hK hP rfl 5 0 rfl rfl rfl hl.1 (Nat.le_of_ble_eq_true rfl) dX5_endOfWord_12 ⟨Nat.le_of_ble_eq_true rfl, Nat.le_of_ble_eq_true rfl⟩) ?_
        clear hz3
        obtain ⟨z4, hz4, h⟩ := jb h
        refine jki (jrS (As := [.int z3]) (rest := []) ⟨hx, hb, hml, hown, hts⟩ (c_X5_isSmall l D cyI cyZ cyT   z3 z4 hz4) (va_cwS 1 hts gX5_endOfWord_X5_isSmall rfl rfl rfl (by decide +kernel) ⟨Nat.le_of_ble_eq_true rfl, Nat.le_of_ble_eq_true rfl⟩) hK jP0 rfl rfl hl.1 (Nat.le_of_ble_eq_true rfl) dX5_endOfWord_15 ⟨Nat.le_of_ble_eq_true rfl, Nat.le_of_ble_eq_true rfl⟩) ?_
        clear hz4
        refine lv_if_eq (tgt := 27) hx hb dX5_endOfWord_18 (by decide) (fun c5 => ?_) (fun c5 => ?_)
        · have h := jt c5 h
          exact hex1 _ (hout _ (Option.some.inj h).symm).symm ls (lv_sub hl [1] rfl)
        · have h := jf c5 h
          refine lv_iinc (v := z1 + (1 : Int32)) (lv' := [(2, .int (z1 + (1 : Int32))), (0, .ref (qa 0))]) hx hb dX5_endOfWord_21 hl (k := 1) rfl rfl (by decide) rfl (fun ls hl => ?_)
          refine lv_goto (tgt := 2) hx hb dX5_endOfWord_24 (by decide) ?_
          exact hin _ (Option.some.inj h).symm ls (lv_sub hl [1, 0] rfl)
    exact hlp1 _ _ hz1 ls (lv_sub hl [1, 0] rfl)
  exact key s.heap hP rfl
abbrev rm_X5_mostOf : Room := { frames := 0, cells := 0, slots := 0, locals := 0 }
set_option maxHeartbeats 4000000 in
set_option maxRecDepth 100000 in
theorem c_X5_mostOf (l : Launch) (D : va_G) (cyI cyZ cyT : ClassId) (a0 : Int32) (a1 : Int32) (o : Int32) (hf : f_X5_mostOf a0 a1 = some o) : Met l yX5_mostOf wsX5_mostOf rm_X5_mostOf (va_Pc [.int a0, .int a1] (jB D cyI cyZ cyT ([]))) (jSi o) 0 0 (fun _ => False) := by
  refine Met.ofW (cc := cX5_mostOf) (maxL := 2) (ret := (some .int)) (by decide) rfl ?_
  intro p e s m args below meth c s₁ B hml hv
  obtain ⟨rfl, hP, hK⟩ := hv
  have hx := B.exec
  have hb := B.bytes
  have hr := B.returns
  have hts := atoms_spec (ws := wsX5_mostOf) B.pre
  have hown : s.vm.findClass RX5 = some m.cls := findClass_of_methodNamed B.named
  have hlocks := B.notSynchronized
  have hl := lv_entry ([.int a0, .int a1]) (n := 2) (Nat.le_of_ble_eq_true rfl)
  rw [lg_entry_eq]
  generalize (lg_sl ([.int a0, .int a1]) ++ List.replicate (2 - (lg_sl ([.int a0, .int a1])).length) Slot.unset).toArray = ls at hl ⊢
  have hl : lv_has ls 2 [(0, .int a0), (1, .int a1)] := hl
  clear B
  generalize ([.int a0, .int a1] : List Value).toArray = args at hts ⊢
  have key : ∀ (H : Heap), va_P D vwCl ([]) H → H = s.heap → W p l e rm_X5_mostOf s m args below meth c H [] 0 0 (MQ below (jSi o) args s 0 0 (fun _ => False)) (F0 m 0 ls []) := by
    intro H hP hH
    have h := hf
    unfold f_X5_mostOf at h
    refine lv_iload_n hx hb dX5_mostOf_0 rfl (lv_at hl 0 rfl) ?_
    by_cases c1 : a0 = (4 : Int32)
    · have h := jt c1 h
      refine lv_tableIn (off := 27) (tgt := 28) hx hb dX5_mostOf_1 (by rw [c1]; decide) (by rw [c1]; decide) (by rw [c1]; rfl) (by decide) ?_
      refine lv_bipush (v := (15 : Int32)) hx hb dX5_mostOf_28 (by decide) ?_
      exact W.iret hx hb hr (fun t ht _ => ⟨_, rfl, Option.some.inj h, ht.trans hH⟩) (fun q h => by cases h) dX5_mostOf_30 hlocks
    have h := jf c1 h
    by_cases c2 : a0 = (5 : Int32)
    · have h := jt c2 h
      refine lv_tableIn (off := 33) (tgt := 34) hx hb dX5_mostOf_1 (by rw [c2]; decide) (by rw [c2]; decide) (by rw [c2]; rfl) (by decide) ?_
      refine lv_iload_n hx hb dX5_mostOf_34 rfl (lv_at hl 1 rfl) ?_
      refine lv_if_ne (tgt := 43) hx hb dX5_mostOf_35 (by decide) (fun c3 => ?_) (fun c3 => ?_)
      · have h := jf c3 h
        refine lv_bipush (v := (10 : Int32)) hx hb dX5_mostOf_43 (by decide) ?_
        exact W.iret hx hb hr (fun t ht _ => ⟨_, rfl, Option.some.inj h, ht.trans hH⟩) (fun q h => by cases h) dX5_mostOf_45 hlocks
      · have h := jt c3 h
        refine lv_bipush (v := (99 : Int32)) hx hb dX5_mostOf_38 (by decide) ?_
        refine lv_goto (tgt := 45) hx hb dX5_mostOf_40 (by decide) ?_
        exact W.iret hx hb hr (fun t ht _ => ⟨_, rfl, Option.some.inj h, ht.trans hH⟩) (fun q h => by cases h) dX5_mostOf_45 hlocks
    have h := jf c2 h
    by_cases c4 : a0 = (6 : Int32)
    · have h := jt c4 h
      refine lv_tableIn (off := 30) (tgt := 31) hx hb dX5_mostOf_1 (by rw [c4]; decide) (by rw [c4]; decide) (by rw [c4]; rfl) (by decide) ?_
      refine lv_bipush (v := (99 : Int32)) hx hb dX5_mostOf_31 (by decide) ?_
      exact W.iret hx hb hr (fun t ht _ => ⟨_, rfl, Option.some.inj h, ht.trans hH⟩) (fun q h => by cases h) dX5_mostOf_33 hlocks
    have h := jf c4 h
    refine lv_tableOut (tgt := 46) hx hb dX5_mostOf_1 (by have d0 := jne (z := 4) rfl c1; have d1 := jne (z := 5) rfl c2; have d2 := jne (z := 6) rfl c4; omega) (by decide) ?_
    refine lv_iload_n hx hb dX5_mostOf_46 rfl (lv_at hl 1 rfl) ?_
    refine lv_iconst (v := (1 : Int32)) hx hb dX5_mostOf_47 (by decide) ?_
    refine lv_icmp_ne (tgt := 56) hx hb dX5_mostOf_48 (by decide) (fun c5 => ?_) (fun c5 => ?_)
    · have h := jf c5 h
      refine lv_bipush (v := (9 : Int32)) hx hb dX5_mostOf_56 (by decide) ?_
      exact W.iret hx hb hr (fun t ht _ => ⟨_, rfl, Option.some.inj h, ht.trans hH⟩) (fun q h => by cases h) dX5_mostOf_58 hlocks
    · have h := jt c5 h
      refine lv_bipush (v := (99 : Int32)) hx hb dX5_mostOf_51 (by decide) ?_
      refine lv_goto (tgt := 58) hx hb dX5_mostOf_53 (by decide) ?_
      exact W.iret hx hb hr (fun t ht _ => ⟨_, rfl, Option.some.inj h, ht.trans hH⟩) (fun q h => by cases h) dX5_mostOf_58 hlocks
  exact key s.heap hP rfl
theorem kw_X5_nextToken_1 : (.fieldLink RX5 22 "BellTheCat$Text" "end" "I" : Cond) ∈ wsX5_nextToken := List.mem_of_getElem? (i := 1) rfl
theorem kw_X5_nextToken_2 : (.fieldLink RX5 32 "BellTheCat$Text" "start" "I" : Cond) ∈ wsX5_nextToken := List.mem_of_getElem? (i := 2) rfl
theorem kw_X5_nextToken_3 : (.fieldLink RX5 18 "BellTheCat$Text" "length" "I" : Cond) ∈ wsX5_nextToken := List.mem_of_getElem? (i := 3) rfl
theorem kw_X5_nextToken_4 : (.methodLink RX5 87 Lib.Math.min.name : Cond) ∈ wsX5_nextToken := List.mem_of_getElem? (i := 4) rfl
theorem kw_X5_nextToken_5 : (.static Lib.Math.min.name : Cond) ∈ wsX5_nextToken := List.mem_of_getElem? (i := 5) rfl
theorem kw_X5_nextToken_6 : (.initialized "java/lang/Math" : Cond) ∈ wsX5_nextToken := List.mem_of_getElem? (i := 6) rfl
theorem kw_X5_nextToken_7 : (.code Lib.Math.min.name Lib.Math.min.code 2 (some .int) : Cond) ∈ wsX5_nextToken := List.mem_of_getElem? (i := 7) rfl
theorem in_X5_nextToken_X5 : ∀ w ∈ wsX50, w ∈ wsX5_nextToken := fun w h => List.mem_cons_of_mem _ (List.mem_append_right _ h)
abbrev rm_X5_nextToken : Room := { frames := 2, cells := 0, slots := 0, locals := 64 }
set_option maxHeartbeats 4000000 in
set_option maxRecDepth 100000 in
theorem c_X5_nextToken (l : Launch) (D : va_G) (cyI cyZ cyT : ClassId) (qa : Nat → Nat) (sz : Nat) (N : Nat) (vx : Mo) (o : Mo) (hf : f_X5_nextToken N vx = some o) : Met l yX5_nextToken wsX5_nextToken rm_X5_nextToken (va_Pc [.ref (qa 0)] (jM D cyI cyZ cyT (wTx cyI qa vx) sz)) (jQv D (va_A (wTx cyI qa vx) sz) (fun u : Mo => wTx cyI qa u) o) 0 0 (va_A (wTx cyI qa vx) sz) := by
  refine Met.ofW (cc := cX5_nextToken) (maxL := 2) (ret := none) (by decide) rfl ?_
  intro p e s m args below meth c s₁ B hml hv
  obtain ⟨rfl, hsz, hP, hK, hD0⟩ := hv
  have hx := B.exec
  have hb := B.bytes
  have hr := B.returns
  have hts := atoms_spec (ws := wsX5_nextToken) B.pre
  have hown : s.vm.findClass RX5 = some m.cls := findClass_of_methodNamed B.named
  have hlocks := B.notSynchronized
  subst hsz
  have hD := hD0.self (sz := s.heap.size)
  generalize hAe : va_A (wTx cyI qa vx) s.heap.size = A at hD ⊢
  have hA : ∀ q : Nat, s.heap.size ≤ q → A q := fun q h => by rw [← hAe]; exact Or.inr h
  have hS : va_S A s.heap s.heap [] := va_S.rf
  have hl := lv_entry ([.ref (qa 0)]) (n := 2) (Nat.le_of_ble_eq_true rfl)
  rw [lg_entry_eq]
  generalize (lg_sl ([.ref (qa 0)]) ++ List.replicate (2 - (lg_sl ([.ref (qa 0)])).length) Slot.unset).toArray = ls at hl ⊢
  have hl : lv_has ls 2 [(0, .ref (qa 0))] := hl
  clear B
  generalize ([.ref (qa 0)] : List Value).toArray = args at hts ⊢
  have key : ∀ (H : Heap) (locs : List Loc), va_P D vwCl (wTx cyI qa vx) H → va_D A (wTx cyI qa vx) → va_S A s.heap H locs → W p l e rm_X5_nextToken s m args below meth c H locs 0 0 (MQ below (jQv D A (fun u : Mo => wTx cyI qa u) o) args s 0 0 A) (F0 m 0 ls []) := by
    intro H locs hP hD hS
    have h := hf
    unfold f_X5_nextToken at h
    refine lv_aload_n hx hb dX5_nextToken_0 rfl (lv_at hl 0 rfl) ?_
    refine lv_aload_n hx hb dX5_nextToken_1 rfl (lv_at hl 0 rfl) ?_
    refine lv_aload_n hx hb dX5_nextToken_2 rfl (lv_at hl 0 rfl) ?_
    refine va_get (D := D) (ci := 5) (v := .int (vx.2 3)) (C := RX5) (T := TX5) (N := 6) hx hb hts in_X5_nextToken_X5 hown hK.1 hP 0 rfl rfl 5 (by decide) (hts _ kw_X5_nextToken_1) (fun _ h9 => h9) rfl dX5_nextToken_3 ?_
    obtain ⟨z1, hz1, h⟩ := jb h
    refine jki (jrV (As := [.int (vx.2 3)]) (rest := [.ref (qa 0)]) ⟨hx, hb, hml, hown, hts⟩ (c_X5_endOfBlanks l D cyI cyZ cyT qa  N (vx.2 3) vx z1 hz1) (cwV 1 hts gX5_nextToken_X5_endOfBlanks rfl rfl rfl (by decide +kernel) ⟨Nat.le_of_ble_eq_true rfl, Nat.le_of_ble_eq_true rfl⟩) hK hP rfl 5 0 rfl rfl rfl hl.1 (Nat.le_of_ble_eq_true rfl) dX5_nextToken_6 ⟨Nat.le_of_ble_eq_true rfl, Nat.le_of_ble_eq_true rfl⟩) ?_
    clear hz1
    refine va_put (D := D) (ci := 5) (v := .int z1) (ty := .int) (C := RX5) (T := TX5) (N := 6) hx hb hts in_X5_nextToken_X5 tyX5 tyX5_ok nmX5 hown hK.1 hP hD hS 0 rfl rfl 4 (by decide) (hts _ kw_X5_nextToken_2) (fun _ h9 => h9) rfl (tyX5_ok 4 (by decide)) rfl rfl (Nat.le_of_ble_eq_true rfl) dX5_nextToken_9 (fun H locs hP hD hS => ?_)
    have hP : va_P D vwCl (wTx cyI qa (vx.1, va_up vx.2 2 z1)) H := hP
    have hD : va_D A (wTx cyI qa (vx.1, va_up vx.2 2 z1)) := hD
    refine lv_aload_n hx hb dX5_nextToken_12 rfl (lv_at hl 0 rfl) ?_
    refine lv_aload_n hx hb dX5_nextToken_13 rfl (lv_at hl 0 rfl) ?_
    refine va_get (D := D) (ci := 5) (v := .int z1) (C := RX5) (T := TX5) (N := 6) hx hb hts in_X5_nextToken_X5 hown hK.1 hP 0 rfl rfl 4 (by decide) (hts _ kw_X5_nextToken_2) (fun _ h9 => h9) rfl dX5_nextToken_14 ?_
    obtain ⟨z2, hz2, h⟩ := jb h
    refine jki (jrV (As := [.int z1]) (rest := []) ⟨hx, hb, hml, hown, hts⟩ (c_X5_letterAt l D cyI cyZ cyT qa  z1 (vx.1, va_up vx.2 2 z1) z2 hz2) (cwV 1 hts gX5_nextToken_X5_letterAt rfl rfl rfl (by decide +kernel) ⟨Nat.le_of_ble_eq_true rfl, Nat.le_of_ble_eq_true rfl⟩) hK hP rfl 5 0 rfl rfl rfl hl.1 (Nat.le_of_ble_eq_true rfl) dX5_nextToken_17 ⟨Nat.le_of_ble_eq_true rfl, Nat.le_of_ble_eq_true rfl⟩) ?_
    clear hz2
    refine lv_istore_n (lv' := [(1, .int z2), (0, .ref (qa 0))]) hx hb dX5_nextToken_20 rfl hl (by decide) rfl (fun ls hl => ?_)
    refine lv_iload_n hx hb dX5_nextToken_21 rfl (lv_at hl 0 rfl) ?_
    obtain ⟨z3, hz3, h⟩ := jb h
    refine jki (jrS (As := [.int z2]) (rest := []) ⟨hx, hb, hml, hown, hts⟩ (c_X5_isSmall l D cyI cyZ cyT   z2 z3 hz3) (va_cwS 1 hts gX5_nextToken_X5_isSmall rfl rfl rfl (by decide +kernel) ⟨Nat.le_of_ble_eq_true rfl, Nat.le_of_ble_eq_true rfl⟩) hK jP0 rfl rfl hl.1 (Nat.le_of_ble_eq_true rfl) dX5_nextToken_22 ⟨Nat.le_of_ble_eq_true rfl, Nat.le_of_ble_eq_true rfl⟩) ?_
    clear hz3
    refine lv_if_eq (tgt := 43) hx hb dX5_nextToken_25 (by decide) (fun c4 => ?_) (fun c4 => ?_)
    · have h := jt c4 h
      refine lv_iload_n hx hb dX5_nextToken_43 rfl (lv_at hl 0 rfl) ?_
      obtain ⟨z5, hz5, h⟩ := jb h
      refine jki (jrS (As := [.int z2]) (rest := []) ⟨hx, hb, hml, hown, hts⟩ (c_X5_isDigit l D cyI cyZ cyT   z2 z5 hz5) (va_cwS 1 hts gX5_nextToken_X5_isDigit rfl rfl rfl (by decide +kernel) ⟨Nat.le_of_ble_eq_true rfl, Nat.le_of_ble_eq_true rfl⟩) hK jP0 rfl rfl hl.1 (Nat.le_of_ble_eq_true rfl) dX5_nextToken_44 ⟨Nat.le_of_ble_eq_true rfl, Nat.le_of_ble_eq_true rfl⟩) ?_
      clear hz5
      refine lv_if_eq (tgt := 65) hx hb dX5_nextToken_47 (by decide) (fun c6 => ?_) (fun c6 => ?_)
      · have h := jt c6 h
        refine lv_aload_n hx hb dX5_nextToken_65 rfl (lv_at hl 1 rfl) ?_
        refine lv_aload_n hx hb dX5_nextToken_66 rfl (lv_at hl 1 rfl) ?_
        refine va_get (D := D) (ci := 5) (v := .int (vx.2 0)) (C := RX5) (T := TX5) (N := 6) hx hb hts in_X5_nextToken_X5 hown hK.1 hP 0 rfl rfl 2 (by decide) (hts _ kw_X5_nextToken_3) (fun _ h9 => h9) rfl dX5_nextToken_67 ?_
        refine lv_aload_n hx hb dX5_nextToken_70 rfl (lv_at hl 1 rfl) ?_
        refine va_get (D := D) (ci := 5) (v := .int z1) (C := RX5) (T := TX5) (N := 6) hx hb hts in_X5_nextToken_X5 hown hK.1 hP 0 rfl rfl 4 (by decide) (hts _ kw_X5_nextToken_2) (fun _ h9 => h9) rfl dX5_nextToken_71 ?_
        refine lv_iconst (v := (1 : Int32)) hx hb dX5_nextToken_74 (by decide) ?_
        refine lv_iadd hx hb dX5_nextToken_75 ?_
        refine va_mmin hx hb (hml.trans hl.1.symm) hown (hts _ kw_X5_nextToken_4) (hts _ kw_X5_nextToken_5) (hts _ kw_X5_nextToken_6) (hts _ kw_X5_nextToken_7) (Nat.le_of_ble_eq_true rfl) (Nat.le_of_ble_eq_true rfl) (Nat.le_of_ble_eq_true rfl) (Nat.le_of_ble_eq_true rfl) dX5_nextToken_76 ?_
        refine va_put (D := D) (ci := 5) (v := .int (if (z1 + (1 : Int32)) < (vx.2 0) then (z1 + (1 : Int32)) else (vx.2 0))) (ty := .int) (C := RX5) (T := TX5) (N := 6) hx hb hts in_X5_nextToken_X5 tyX5 tyX5_ok nmX5 hown hK.1 hP hD hS 0 rfl rfl 5 (by decide) (hts _ kw_X5_nextToken_1) (fun _ h9 => h9) rfl (tyX5_ok 5 (by decide)) rfl rfl (Nat.le_of_ble_eq_true rfl) dX5_nextToken_79 (fun H locs hP hD hS => ?_)
        have hP : va_P D vwCl (wTx cyI qa (vx.1, va_up (va_up vx.2 2 z1) 3 (if (z1 + (1 : Int32)) < (vx.2 0) then (z1 + (1 : Int32)) else (vx.2 0)))) H := hP
        have hD : va_D A (wTx cyI qa (vx.1, va_up (va_up vx.2 2 z1) 3 (if (z1 + (1 : Int32)) < (vx.2 0) then (z1 + (1 : Int32)) else (vx.2 0)))) := hD
        exact W.vret hx hb hr (fun t ht _ => ⟨⟨_, rfl, Option.some.inj h, by rw [ht]; exact hP, hD⟩, hS.F ht⟩) hS.2.2 dX5_nextToken_82 hlocks
      · have h := jf c6 h
        refine lv_aload_n hx hb dX5_nextToken_50 rfl (lv_at hl 1 rfl) ?_
        refine lv_aload_n hx hb dX5_nextToken_51 rfl (lv_at hl 1 rfl) ?_
        refine lv_aload_n hx hb dX5_nextToken_52 rfl (lv_at hl 1 rfl) ?_
        refine va_get (D := D) (ci := 5) (v := .int z1) (C := RX5) (T := TX5) (N := 6) hx hb hts in_X5_nextToken_X5 hown hK.1 hP 0 rfl rfl 4 (by decide) (hts _ kw_X5_nextToken_2) (fun _ h9 => h9) rfl dX5_nextToken_53 ?_
        obtain ⟨z7, hz7, h⟩ := jb h
        refine jki (jrV (As := [.int z1]) (rest := [.ref (qa 0)]) ⟨hx, hb, hml, hown, hts⟩ (c_X5_endOfNumber l D cyI cyZ cyT qa  N z1 (vx.1, va_up vx.2 2 z1) z7 hz7) (cwV 1 hts gX5_nextToken_X5_endOfNumber rfl rfl rfl (by decide +kernel) ⟨Nat.le_of_ble_eq_true rfl, Nat.le_of_ble_eq_true rfl⟩) hK hP rfl 5 0 rfl rfl rfl hl.1 (Nat.le_of_ble_eq_true rfl) dX5_nextToken_56 ⟨Nat.le_of_ble_eq_true rfl, Nat.le_of_ble_eq_true rfl⟩) ?_
        clear hz7
        refine va_put (D := D) (ci := 5) (v := .int z7) (ty := .int) (C := RX5) (T := TX5) (N := 6) hx hb hts in_X5_nextToken_X5 tyX5 tyX5_ok nmX5 hown hK.1 hP hD hS 0 rfl rfl 5 (by decide) (hts _ kw_X5_nextToken_1) (fun _ h9 => h9) rfl (tyX5_ok 5 (by decide)) rfl rfl (Nat.le_of_ble_eq_true rfl) dX5_nextToken_59 (fun H locs hP hD hS => ?_)
        have hP : va_P D vwCl (wTx cyI qa (vx.1, va_up (va_up vx.2 2 z1) 3 z7)) H := hP
        have hD : va_D A (wTx cyI qa (vx.1, va_up (va_up vx.2 2 z1) 3 z7)) := hD
        refine lv_goto (tgt := 82) hx hb dX5_nextToken_62 (by decide) ?_
        exact W.vret hx hb hr (fun t ht _ => ⟨⟨_, rfl, Option.some.inj h, by rw [ht]; exact hP, hD⟩, hS.F ht⟩) hS.2.2 dX5_nextToken_82 hlocks
    · have h := jf c4 h
      refine lv_aload_n hx hb dX5_nextToken_28 rfl (lv_at hl 1 rfl) ?_
      refine lv_aload_n hx hb dX5_nextToken_29 rfl (lv_at hl 1 rfl) ?_
      refine lv_aload_n hx hb dX5_nextToken_30 rfl (lv_at hl 1 rfl) ?_
      refine va_get (D := D) (ci := 5) (v := .int z1) (C := RX5) (T := TX5) (N := 6) hx hb hts in_X5_nextToken_X5 hown hK.1 hP 0 rfl rfl 4 (by decide) (hts _ kw_X5_nextToken_2) (fun _ h9 => h9) rfl dX5_nextToken_31 ?_
      obtain ⟨z8, hz8, h⟩ := jb h
      refine jki (jrV (As := [.int z1]) (rest := [.ref (qa 0)]) ⟨hx, hb, hml, hown, hts⟩ (c_X5_endOfWord l D cyI cyZ cyT qa  N z1 (vx.1, va_up vx.2 2 z1) z8 hz8) (cwV 1 hts gX5_nextToken_X5_endOfWord rfl rfl rfl (by decide +kernel) ⟨Nat.le_of_ble_eq_true rfl, Nat.le_of_ble_eq_true rfl⟩) hK hP rfl 5 0 rfl rfl rfl hl.1 (Nat.le_of_ble_eq_true rfl) dX5_nextToken_34 ⟨Nat.le_of_ble_eq_true rfl, Nat.le_of_ble_eq_true rfl⟩) ?_
      clear hz8
      refine va_put (D := D) (ci := 5) (v := .int z8) (ty := .int) (C := RX5) (T := TX5) (N := 6) hx hb hts in_X5_nextToken_X5 tyX5 tyX5_ok nmX5 hown hK.1 hP hD hS 0 rfl rfl 5 (by decide) (hts _ kw_X5_nextToken_1) (fun _ h9 => h9) rfl (tyX5_ok 5 (by decide)) rfl rfl (Nat.le_of_ble_eq_true rfl) dX5_nextToken_37 (fun H locs hP hD hS => ?_)
      have hP : va_P D vwCl (wTx cyI qa (vx.1, va_up (va_up vx.2 2 z1) 3 z8)) H := hP
      have hD : va_D A (wTx cyI qa (vx.1, va_up (va_up vx.2 2 z1) 3 z8)) := hD
      refine lv_goto (tgt := 82) hx hb dX5_nextToken_40 (by decide) ?_
      exact W.vret hx hb hr (fun t ht _ => ⟨⟨_, rfl, Option.some.inj h, by rw [ht]; exact hP, hD⟩, hS.F ht⟩) hS.2.2 dX5_nextToken_82 hlocks
  exact key s.heap [] hP hD hS
theorem kw_X5_numberHere_1 : (.fieldLink RX5 32 "BellTheCat$Text" "start" "I" : Cond) ∈ wsX5_numberHere := List.mem_of_getElem? (i := 1) rfl
theorem kw_X5_numberHere_2 : (.fieldLink RX5 22 "BellTheCat$Text" "end" "I" : Cond) ∈ wsX5_numberHere := List.mem_of_getElem? (i := 2) rfl
theorem in_X5_numberHere_X5 : ∀ w ∈ wsX50, w ∈ wsX5_numberHere := fun w h => List.mem_cons_of_mem _ (List.mem_append_right _ h)
abbrev rm_X5_numberHere : Room := { frames := 1, cells := 0, slots := 0, locals := 21 }
set_option maxHeartbeats 4000000 in
set_option maxRecDepth 100000 in
theorem c_X5_numberHere (l : Launch) (D : va_G) (cyI cyZ cyT : ClassId) (qa : Nat → Nat) (N : Nat) (vx : Mo) (o : Int32) (hf : f_X5_numberHere N vx = some o) : Met l yX5_numberHere wsX5_numberHere rm_X5_numberHere (va_Pc [.ref (qa 0)] (jB D cyI cyZ cyT (wTx cyI qa vx))) (jSi o) 0 0 (fun _ => False) := by
  refine Met.ofW (cc := cX5_numberHere) (maxL := 3) (ret := (some .int)) (by decide) rfl ?_
  intro p e s m args below meth c s₁ B hml hv
  obtain ⟨rfl, hP, hK⟩ := hv
  have hx := B.exec
  have hb := B.bytes
  have hr := B.returns
  have hts := atoms_spec (ws := wsX5_numberHere) B.pre
  have hown : s.vm.findClass RX5 = some m.cls := findClass_of_methodNamed B.named
  have hlocks := B.notSynchronized
  have hl := lv_entry ([.ref (qa 0)]) (n := 3) (Nat.le_of_ble_eq_true rfl)
  rw [lg_entry_eq]
  generalize (lg_sl ([.ref (qa 0)]) ++ List.replicate (3 - (lg_sl ([.ref (qa 0)])).length) Slot.unset).toArray = ls at hl ⊢
  have hl : lv_has ls 3 [(0, .ref (qa 0))] := hl
  clear B
  generalize ([.ref (qa 0)] : List Value).toArray = args at hts ⊢
  have key : ∀ (H : Heap), va_P D vwCl (wTx cyI qa vx) H → H = s.heap → W p l e rm_X5_numberHere s m args below meth c H [] 0 0 (MQ below (jSi o) args s 0 0 (fun _ => False)) (F0 m 0 ls []) := by
    intro H hP hH
    have h := hf
    unfold f_X5_numberHere at h
    refine lv_aload_n hx hb dX5_numberHere_0 rfl (lv_at hl 0 rfl) ?_
    refine lv_aload_n hx hb dX5_numberHere_1 rfl (lv_at hl 0 rfl) ?_
    refine va_get (D := D) (ci := 5) (v := .int (vx.2 2)) (C := RX5) (T := TX5) (N := 6) hx hb hts in_X5_numberHere_X5 hown hK.1 hP 0 rfl rfl 4 (by decide) (hts _ kw_X5_numberHere_1) (fun _ h9 => h9) rfl dX5_numberHere_2 ?_
    obtain ⟨z1, hz1, h⟩ := jb h
    refine jki (jrV (As := [.int (vx.2 2)]) (rest := []) ⟨hx, hb, hml, hown, hts⟩ (c_X5_letterAt l D cyI cyZ cyT qa  (vx.2 2) vx z1 hz1) (cwV 1 hts gX5_numberHere_X5_letterAt rfl rfl rfl (by decide +kernel) ⟨Nat.le_of_ble_eq_true rfl, Nat.le_of_ble_eq_true rfl⟩) hK hP rfl 5 0 rfl rfl rfl hl.1 (Nat.le_of_ble_eq_true rfl) dX5_numberHere_5 ⟨Nat.le_of_ble_eq_true rfl, Nat.le_of_ble_eq_true rfl⟩) ?_
    clear hz1
    obtain ⟨z2, hz2, h⟩ := jb h
    refine jki (jrS (As := [.int z1]) (rest := []) ⟨hx, hb, hml, hown, hts⟩ (c_X5_isDigit l D cyI cyZ cyT   z1 z2 hz2) (va_cwS 1 hts gX5_numberHere_X5_isDigit rfl rfl rfl (by decide +kernel) ⟨Nat.le_of_ble_eq_true rfl, Nat.le_of_ble_eq_true rfl⟩) hK jP0 rfl rfl hl.1 (Nat.le_of_ble_eq_true rfl) dX5_numberHere_8 ⟨Nat.le_of_ble_eq_true rfl, Nat.le_of_ble_eq_true rfl⟩) ?_
    clear hz2
    refine lv_if_eq (tgt := 27) hx hb dX5_numberHere_11 (by decide) (fun c3 => ?_) (fun c3 => ?_)
    · have h := jt c3 h
      refine lv_iconst (v := (-1 : Int32)) hx hb dX5_numberHere_27 (by decide) ?_
      exact W.iret hx hb hr (fun t ht _ => ⟨_, rfl, Option.some.inj h, ht.trans hH⟩) (fun q h => by cases h) dX5_numberHere_28 hlocks
    · have h := jf c3 h
      refine lv_aload_n hx hb dX5_numberHere_14 rfl (lv_at hl 0 rfl) ?_
      refine va_get (D := D) (ci := 5) (v := .int (vx.2 3)) (C := RX5) (T := TX5) (N := 6) hx hb hts in_X5_numberHere_X5 hown hK.1 hP 0 rfl rfl 5 (by decide) (hts _ kw_X5_numberHere_2) (fun _ h9 => h9) rfl dX5_numberHere_15 ?_
      refine lv_aload_n hx hb dX5_numberHere_18 rfl (lv_at hl 0 rfl) ?_
      refine va_get (D := D) (ci := 5) (v := .int (vx.2 2)) (C := RX5) (T := TX5) (N := 6) hx hb hts in_X5_numberHere_X5 hown hK.1 hP 0 rfl rfl 4 (by decide) (hts _ kw_X5_numberHere_1) (fun _ h9 => h9) rfl dX5_numberHere_19 ?_
      refine lv_isub hx hb dX5_numberHere_22 ?_
      refine lv_iconst (v := (2 : Int32)) hx hb dX5_numberHere_23 (by decide) ?_
      refine lv_icmp_le (tgt := 29) hx hb dX5_numberHere_24 (by decide) (fun c4 => ?_) (fun c4 => ?_)
      · have h := jt c4 h
        refine lv_iconst (v := (0 : Int32)) hx hb dX5_numberHere_29 (by decide) ?_
        refine lv_istore_n (lv' := [(1, .int (0 : Int32)), (0, .ref (qa 0))]) hx hb dX5_numberHere_30 rfl hl (by decide) rfl (fun ls hl => ?_)
        refine lv_aload_n hx hb dX5_numberHere_31 rfl (lv_at hl 1 rfl) ?_
        refine va_get (D := D) (ci := 5) (v := .int (vx.2 2)) (C := RX5) (T := TX5) (N := 6) hx hb hts in_X5_numberHere_X5 hown hK.1 hP 0 rfl rfl 4 (by decide) (hts _ kw_X5_numberHere_1) (fun _ h9 => h9) rfl dX5_numberHere_32 ?_
        refine lv_istore_n (lv' := [(2, .int (vx.2 2)), (1, .int (0 : Int32)), (0, .ref (qa 0))]) hx hb dX5_numberHere_35 rfl hl (by decide) rfl (fun ls hl => ?_)
        obtain ⟨r5, hz5, h5_⟩ := jb h
        have hex5 : ∀ e5 : Int32, r5 = e5 → ∀ (ls : Array Slot), lv_has ls 3 [(1, .int e5)] → W p l e rm_X5_numberHere s m args below meth c H [] 0 0 (MQ below (jSi o) args s 0 0 (fun _ => False)) (F0 m 64 ls []) := by
          intro e5 he ls hl
          rw [he] at h5_
          have h := h5_
          clear hz5
          refine lv_iload_n hx hb dX5_numberHere_64 rfl (lv_at hl 0 rfl) ?_
          exact W.iret hx hb hr (fun t ht _ => ⟨_, rfl, Option.some.inj h, ht.trans hH⟩) (fun q h => by cases h) dX5_numberHere_65 hlocks
        have hlp5 : ∀ (nn : Nat) (z5 : (Int32 × Int32)), jw (X5_numberHere_s36 vx) nn z5 = some r5 → ∀ (ls : Array Slot), lv_has ls 3 [(0, .ref (qa 0)), (1, .int z5.1), (2, .int z5.2)] → W p l e rm_X5_numberHere s m args below meth c H [] 0 0 (MQ below (jSi o) args s 0 0 (fun _ => False)) (F0 m 36 ls []) := by
          refine jw_P (r := r5) (P := fun z5 : (Int32 × Int32) => ∀ (ls : Array Slot), lv_has ls 3 [(0, .ref (qa 0)), (1, .int z5.1), (2, .int z5.2)] → W p l e rm_X5_numberHere s m args below meth c H [] 0 0 (MQ below (jSi o) args s 0 0 (fun _ => False)) (F0 m 36 ls [])) ?_
          intro z5 x5 h hin hout ls hl
          unfold X5_numberHere_s36 at h
          refine lv_iload_n hx hb dX5_numberHere_36 rfl (lv_at hl 2 rfl) ?_
          refine lv_aload_n hx hb dX5_numberHere_37 rfl (lv_at hl 0 rfl) ?_
          refine va_get (D := D) (ci := 5) (v := .int (vx.2 3)) (C := RX5) (T := TX5) (N := 6) hx hb hts in_X5_numberHere_X5 hown hK.1 hP 0 rfl rfl 5 (by decide) (hts _ kw_X5_numberHere_2) (fun _ h9 => h9) rfl dX5_numberHere_38 ?_
          refine lv_icmp_ge (tgt := 64) hx hb dX5_numberHere_41 (by decide) (fun c6 => ?_) (fun c6 => ?_)
          · have h := jt c6 h
            exact hex5 _ (hout _ (Option.some.inj h).symm).symm ls (lv_sub hl [1] rfl)
          · have h := jf c6 h
            refine lv_bipush (v := (10 : Int32)) hx hb dX5_numberHere_44 (by decide) ?_
            refine lv_iload_n hx hb dX5_numberHere_46 rfl (lv_at hl 1 rfl) ?_
            refine lv_imul hx hb dX5_numberHere_47 ?_
            refine lv_aload_n hx hb dX5_numberHere_48 rfl (lv_at hl 0 rfl) ?_
            refine lv_iload_n hx hb dX5_numberHere_49 rfl (lv_at hl 2 rfl) ?_
            obtain ⟨z7, hz7, h⟩ := jb h
            refine jki (jrV (As := [.int z5.2]) (rest := [.int ((10 : Int32) * z5.1)]) ⟨hx, hb, hml, hown, hts⟩ (c_X5_letterAt l D cyI cyZ cyT qa  z5.2 vx z7 hz7) (cwV 1 hts gX5_numberHere_X5_letterAt rfl rfl rfl (by decide +kernel) ⟨Nat.le_of_ble_eq_true rfl, Nat.le_of_ble_eq_true rfl⟩) hK hP rfl 5 0 rfl rfl rfl hl.1 (Nat.le_of_ble_eq_true rfl) dX5_numberHere_50 ⟨Nat.le_of_ble_eq_true rfl, Nat.le_of_ble_eq_true rfl⟩) ?_
            clear hz7
            refine lv_iadd hx hb dX5_numberHere_53 ?_
            refine lv_bipush (v := (48 : Int32)) hx hb dX5_numberHere_54 (by decide) ?_
            refine lv_isub hx hb dX5_numberHere_56 ?_
            refine lv_istore_n (lv' := [(1, .int ((((10 : Int32) * z5.1) + z7) - (48 : Int32))), (0, .ref (qa 0)), (2, .int z5.2)]) hx hb dX5_numberHere_57 rfl hl (by decide) rfl (fun ls hl => ?_)
            refine lv_iinc (v := z5.2 + (1 : Int32)) (lv' := [(2, .int (z5.2 + (1 : Int32))), (1, .int ((((10 : Int32) * z5.1) + z7) - (48 : Int32))), (0, .ref (qa 0))]) hx hb dX5_numberHere_58 hl (k := 2) rfl rfl (by decide) rfl (fun ls hl => ?_)
            refine lv_goto (tgt := 36) hx hb dX5_numberHere_61 (by decide) ?_
            exact hin _ (Option.some.inj h).symm ls (lv_sub hl [2, 1, 0] rfl)
        exact hlp5 _ _ hz5 ls (lv_sub hl [2, 1, 0] rfl)
      · have h := jf c4 h
        refine lv_iconst (v := (-1 : Int32)) hx hb dX5_numberHere_27 (by decide) ?_
        exact W.iret hx hb hr (fun t ht _ => ⟨_, rfl, Option.some.inj h, ht.trans hH⟩) (fun q h => by cases h) dX5_numberHere_28 hlocks
  exact key s.heap hP rfl
abbrev rm_X5_numbersBehind : Room := { frames := 0, cells := 0, slots := 0, locals := 0 }
set_option maxHeartbeats 4000000 in
set_option maxRecDepth 100000 in
theorem c_X5_numbersBehind (l : Launch) (D : va_G) (cyI cyZ cyT : ClassId) (a0 : Int32) (o : Int32) (hf : f_X5_numbersBehind a0 = some o) : Met l yX5_numbersBehind wsX5_numbersBehind rm_X5_numbersBehind (va_Pc [.int a0] (jB D cyI cyZ cyT ([]))) (jSi o) 0 0 (fun _ => False) := by
  refine Met.ofW (cc := cX5_numbersBehind) (maxL := 1) (ret := (some .int)) (by decide) rfl ?_
  intro p e s m args below meth c s₁ B hml hv
  obtain ⟨rfl, hP, hK⟩ := hv
  have hx := B.exec
  have hb := B.bytes
  have hr := B.returns
  have hts := atoms_spec (ws := wsX5_numbersBehind) B.pre
  have hown : s.vm.findClass RX5 = some m.cls := findClass_of_methodNamed B.named
  have hlocks := B.notSynchronized
  have hl := lv_entry ([.int a0]) (n := 1) (Nat.le_of_ble_eq_true rfl)
  rw [lg_entry_eq]
  generalize (lg_sl ([.int a0]) ++ List.replicate (1 - (lg_sl ([.int a0])).length) Slot.unset).toArray = ls at hl ⊢
  have hl : lv_has ls 1 [(0, .int a0)] := hl
  clear B
  generalize ([.int a0] : List Value).toArray = args at hts ⊢
  have key : ∀ (H : Heap), va_P D vwCl ([]) H → H = s.heap → W p l e rm_X5_numbersBehind s m args below meth c H [] 0 0 (MQ below (jSi o) args s 0 0 (fun _ => False)) (F0 m 0 ls []) := by
    intro H hP hH
    have h := hf
    unfold f_X5_numbersBehind at h
    refine lv_iload_n hx hb dX5_numbersBehind_0 rfl (lv_at hl 0 rfl) ?_
    by_cases c1 : a0 = (4 : Int32)
    · have h := jt c1 h
      refine lv_tableIn (off := 35) (tgt := 36) hx hb dX5_numbersBehind_1 (by rw [c1]; decide) (by rw [c1]; decide) (by rw [c1]; rfl) (by decide) ?_
      refine lv_iconst (v := (1 : Int32)) hx hb dX5_numbersBehind_36 (by decide) ?_
      exact W.iret hx hb hr (fun t ht _ => ⟨_, rfl, Option.some.inj h, ht.trans hH⟩) (fun q h => by cases h) dX5_numbersBehind_37 hlocks
    have h := jf c1 h
    by_cases c2 : a0 = (5 : Int32)
    · have h := jt c2 h
      refine lv_tableIn (off := 39) (tgt := 40) hx hb dX5_numbersBehind_1 (by rw [c2]; decide) (by rw [c2]; decide) (by rw [c2]; rfl) (by decide) ?_
      refine lv_iconst (v := (3 : Int32)) hx hb dX5_numbersBehind_40 (by decide) ?_
      exact W.iret hx hb hr (fun t ht _ => ⟨_, rfl, Option.some.inj h, ht.trans hH⟩) (fun q h => by cases h) dX5_numbersBehind_41 hlocks
    have h := jf c2 h
    by_cases c3 : a0 = (6 : Int32)
    · have h := jt c3 h
      refine lv_tableIn (off := 35) (tgt := 36) hx hb dX5_numbersBehind_1 (by rw [c3]; decide) (by rw [c3]; decide) (by rw [c3]; rfl) (by decide) ?_
      refine lv_iconst (v := (1 : Int32)) hx hb dX5_numbersBehind_36 (by decide) ?_
      exact W.iret hx hb hr (fun t ht _ => ⟨_, rfl, Option.some.inj h, ht.trans hH⟩) (fun q h => by cases h) dX5_numbersBehind_37 hlocks
    have h := jf c3 h
    by_cases c4 : a0 = (7 : Int32)
    · have h := jt c4 h
      refine lv_tableIn (off := 37) (tgt := 38) hx hb dX5_numbersBehind_1 (by rw [c4]; decide) (by rw [c4]; decide) (by rw [c4]; rfl) (by decide) ?_
      refine lv_iconst (v := (0 : Int32)) hx hb dX5_numbersBehind_38 (by decide) ?_
      exact W.iret hx hb hr (fun t ht _ => ⟨_, rfl, Option.some.inj h, ht.trans hH⟩) (fun q h => by cases h) dX5_numbersBehind_39 hlocks
    have h := jf c4 h
    by_cases c5 : a0 = (8 : Int32)
    · have h := jt c5 h
      refine lv_tableIn (off := 37) (tgt := 38) hx hb dX5_numbersBehind_1 (by rw [c5]; decide) (by rw [c5]; decide) (by rw [c5]; rfl) (by decide) ?_
      refine lv_iconst (v := (0 : Int32)) hx hb dX5_numbersBehind_38 (by decide) ?_
      exact W.iret hx hb hr (fun t ht _ => ⟨_, rfl, Option.some.inj h, ht.trans hH⟩) (fun q h => by cases h) dX5_numbersBehind_39 hlocks
    have h := jf c5 h
    refine lv_tableOut (tgt := 40) hx hb dX5_numbersBehind_1 (by have d0 := jne (z := 4) rfl c1; have d1 := jne (z := 5) rfl c2; have d2 := jne (z := 6) rfl c3; have d3 := jne (z := 7) rfl c4; have d4 := jne (z := 8) rfl c5; omega) (by decide) ?_
    refine lv_iconst (v := (3 : Int32)) hx hb dX5_numbersBehind_40 (by decide) ?_
    exact W.iret hx hb hr (fun t ht _ => ⟨_, rfl, Option.some.inj h, ht.trans hH⟩) (fun q h => by cases h) dX5_numbersBehind_41 hlocks
  exact key s.heap hP rfl
theorem kw_X7_copyTeam_1 : (.fieldLink RX7 184 "BellTheCat$Team" "nights" "I" : Cond) ∈ wsX7_copyTeam := List.mem_of_getElem? (i := 1) rfl
theorem kw_X7_copyTeam_2 : (.fieldLink RX7 223 "BellTheCat$Team" "living" "I" : Cond) ∈ wsX7_copyTeam := List.mem_of_getElem? (i := 2) rfl
theorem kw_X7_copyTeam_3 : (.fieldLink RX7 174 "BellTheCat$Team" "belled" "Z" : Cond) ∈ wsX7_copyTeam := List.mem_of_getElem? (i := 3) rfl
theorem in_X7_copyTeam_X4 : ∀ w ∈ wsX40, w ∈ wsX7_copyTeam := fun w h => List.mem_cons_of_mem _ (List.mem_append_right _ h)
abbrev rm_X7_copyTeam : Room := { frames := 0, cells := 0, slots := 0, locals := 0 }
set_option maxHeartbeats 4000000 in
set_option maxRecDepth 100000 in
theorem c_X7_copyTeam (l : Launch) (D : va_G) (cyI cyZ cyT : ClassId) (qa qb : Nat → Nat) (sz : Nat) (N : Nat) (vt : Mo) (vt2 : Mo) (o : Mo) (hf : f_X7_copyTeam N vt vt2 = some o) : Met l yX7_copyTeam wsX7_copyTeam rm_X7_copyTeam (va_Pc [.ref (qa 0), .ref (qb 0)] (jM D cyI cyZ cyT (wT cyI qa vt ++ wT cyI qb vt2) sz)) (jQv D (va_A (wT cyI qa vt ++ wT cyI qb vt2) sz) (fun u : Mo => wT cyI qa vt ++ wT cyI qb u) o) 0 0 (va_A (wT cyI qa vt ++ wT cyI qb vt2) sz) := by
  refine Met.ofW (cc := cX7_copyTeam) (maxL := 3) (ret := none) (by decide) rfl ?_
  intro p e s m args below meth c s₁ B hml hv
  obtain ⟨rfl, hsz, hP, hK, hD0⟩ := hv
  have hx := B.exec
  have hb := B.bytes
  have hr := B.returns
  have hts := atoms_spec (ws := wsX7_copyTeam) B.pre
  have hown : s.vm.findClass RX7 = some m.cls := findClass_of_methodNamed B.named
  have hlocks := B.notSynchronized
  subst hsz
  have hD := hD0.self (sz := s.heap.size)
  generalize hAe : va_A (wT cyI qa vt ++ wT cyI qb vt2) s.heap.size = A at hD ⊢
  have hA : ∀ q : Nat, s.heap.size ≤ q → A q := fun q h => by rw [← hAe]; exact Or.inr h
  have hS : va_S A s.heap s.heap [] := va_S.rf
  have hl := lv_entry ([.ref (qa 0), .ref (qb 0)]) (n := 3) (Nat.le_of_ble_eq_true rfl)
  rw [lg_entry_eq]
  generalize (lg_sl ([.ref (qa 0), .ref (qb 0)]) ++ List.replicate (3 - (lg_sl ([.ref (qa 0), .ref (qb 0)])).length) Slot.unset).toArray = ls at hl ⊢
  have hl : lv_has ls 3 [(0, .ref (qa 0)), (1, .ref (qb 0))] := hl
  clear B
  generalize ([.ref (qa 0), .ref (qb 0)] : List Value).toArray = args at hts ⊢
  have key : ∀ (H : Heap) (locs : List Loc), va_P D vwCl (wT cyI qa vt ++ wT cyI qb vt2) H → va_D A (wT cyI qa vt ++ wT cyI qb vt2) → va_S A s.heap H locs → W p l e rm_X7_copyTeam s m args below meth c H locs 0 0 (MQ below (jQv D A (fun u : Mo => wT cyI qa vt ++ wT cyI qb u) o) args s 0 0 A) (F0 m 0 ls []) := by
    intro H locs hP hD hS
    have h := hf
    unfold f_X7_copyTeam at h
    refine lv_aload_n hx hb dX7_copyTeam_0 rfl (lv_at hl 0 rfl) ?_
    refine lv_ifnull hx hb dX7_copyTeam_1 ?_
    refine lv_aload_n hx hb dX7_copyTeam_4 rfl (lv_at hl 1 rfl) ?_
    refine lv_ifnonnull (tgt := 9) hx hb dX7_copyTeam_5 (by decide) ?_
    refine lv_iconst (v := (0 : Int32)) hx hb dX7_copyTeam_9 (by decide) ?_
    refine lv_istore_n (lv' := [(2, .int (0 : Int32)), (0, .ref (qa 0)), (1, .ref (qb 0))]) hx hb dX7_copyTeam_10 rfl hl (by decide) rfl (fun ls hl => ?_)
    obtain ⟨r1, hz1, h1_⟩ := jb h
    have hex1 : ∀ e1 : Mo, r1 = e1 → ∀ (H : Heap) (locs : List Loc), va_P D vwCl (wT cyI qa vt ++ wT cyI qb e1) H → va_D A (wT cyI qa vt ++ wT cyI qb e1) → va_S A s.heap H locs → ∀ (ls : Array Slot), lv_has ls 3 [(0, .ref (qa 0)), (1, .ref (qb 0))] → W p l e rm_X7_copyTeam s m args below meth c H locs 0 0 (MQ below (jQv D A (fun u : Mo => wT cyI qa vt ++ wT cyI qb u) o) args s 0 0 A) (F0 m 34 ls []) := by
      intro e1 he H locs hP hD hS ls hl
      rw [he] at h1_
      have h := h1_
      clear hz1
      refine lv_aload_n hx hb dX7_copyTeam_34 rfl (lv_at hl 1 rfl) ?_
      refine lv_aload_n hx hb dX7_copyTeam_35 rfl (lv_at hl 0 rfl) ?_
      refine va_get (D := D) (ci := 4) (v := .int (vt.2 0)) (C := RX4) (T := TX4) (N := 4) hx hb hts in_X7_copyTeam_X4 hown hK.1 hP 0 rfl rfl 1 (by decide) (hts _ kw_X7_copyTeam_1) (fun _ h9 => h9) rfl dX7_copyTeam_36 ?_
      refine va_put (D := D) (ci := 4) (v := .int (vt.2 0)) (ty := .int) (C := RX4) (T := TX4) (N := 4) hx hb hts in_X7_copyTeam_X4 tyX4 tyX4_ok nmX4 hown hK.1 hP hD hS 2 rfl rfl 1 (by decide) (hts _ kw_X7_copyTeam_1) (fun _ h9 => h9) rfl (tyX4_ok 1 (by decide)) rfl rfl (Nat.le_of_ble_eq_true rfl) dX7_copyTeam_39 (fun H locs hP hD hS => ?_)
      have hP : va_P D vwCl (wT cyI qa vt ++ wT cyI qb (e1.1, va_up e1.2 0 (vt.2 0))) H := hP
      have hD : va_D A (wT cyI qa vt ++ wT cyI qb (e1.1, va_up e1.2 0 (vt.2 0))) := hD
      refine lv_aload_n hx hb dX7_copyTeam_42 rfl (lv_at hl 1 rfl) ?_
      refine lv_aload_n hx hb dX7_copyTeam_43 rfl (lv_at hl 0 rfl) ?_
      refine va_get (D := D) (ci := 4) (v := .int (vt.2 1)) (C := RX4) (T := TX4) (N := 4) hx hb hts in_X7_copyTeam_X4 hown hK.1 hP 0 rfl rfl 2 (by decide) (hts _ kw_X7_copyTeam_2) (fun _ h9 => h9) rfl dX7_copyTeam_44 ?_
      refine va_put (D := D) (ci := 4) (v := .int (vt.2 1)) (ty := .int) (C := RX4) (T := TX4) (N := 4) hx hb hts in_X7_copyTeam_X4 tyX4 tyX4_ok nmX4 hown hK.1 hP hD hS 2 rfl rfl 2 (by decide) (hts _ kw_X7_copyTeam_2) (fun _ h9 => h9) rfl (tyX4_ok 2 (by decide)) rfl rfl (Nat.le_of_ble_eq_true rfl) dX7_copyTeam_47 (fun H locs hP hD hS => ?_)
      have hP : va_P D vwCl (wT cyI qa vt ++ wT cyI qb (e1.1, va_up (va_up e1.2 0 (vt.2 0)) 1 (vt.2 1))) H := hP
      have hD : va_D A (wT cyI qa vt ++ wT cyI qb (e1.1, va_up (va_up e1.2 0 (vt.2 0)) 1 (vt.2 1))) := hD
      refine lv_aload_n hx hb dX7_copyTeam_50 rfl (lv_at hl 1 rfl) ?_
      refine lv_aload_n hx hb dX7_copyTeam_51 rfl (lv_at hl 0 rfl) ?_
      refine va_get (D := D) (ci := 4) (v := .int (vt.2 2)) (C := RX4) (T := TX4) (N := 4) hx hb hts in_X7_copyTeam_X4 hown hK.1 hP 0 rfl rfl 3 (by decide) (hts _ kw_X7_copyTeam_3) (fun _ h9 => h9) rfl dX7_copyTeam_52 ?_
      obtain ⟨g5, h⟩ := jn h
      refine va_put (D := D) (ci := 4) (v := .int (vt.2 2)) (ty := .boolean) (C := RX4) (T := TX4) (N := 4) hx hb hts in_X7_copyTeam_X4 tyX4 tyX4_ok nmX4 hown hK.1 hP hD hS 2 rfl rfl 3 (by decide) (hts _ kw_X7_copyTeam_3) (fun _ h9 => h9) rfl (tyX4_ok 3 (by decide)) (jz_n g5) (jz_f g5) (Nat.le_of_ble_eq_true rfl) dX7_copyTeam_55 (fun H locs hP hD hS => ?_)
      have hP : va_P D vwCl (wT cyI qa vt ++ wT cyI qb (e1.1, va_up (va_up (va_up e1.2 0 (vt.2 0)) 1 (vt.2 1)) 2 (vt.2 2))) H := hP
      have hD : va_D A (wT cyI qa vt ++ wT cyI qb (e1.1, va_up (va_up (va_up e1.2 0 (vt.2 0)) 1 (vt.2 1)) 2 (vt.2 2))) := hD
      exact W.vret hx hb hr (fun t ht _ => ⟨⟨_, rfl, Option.some.inj h, by rw [ht]; exact hP, hD⟩, hS.F ht⟩) hS.2.2 dX7_copyTeam_58 hlocks
    have hlp1 : ∀ (nn : Nat) (z1 : (Int32 × Mo)), jw (X7_copyTeam_s11 vt) nn z1 = some r1 → ∀ (H : Heap) (locs : List Loc), va_P D vwCl (wT cyI qa vt ++ wT cyI qb z1.2) H → va_D A (wT cyI qa vt ++ wT cyI qb z1.2) → va_S A s.heap H locs → ∀ (ls : Array Slot), lv_has ls 3 [(0, .ref (qa 0)), (1, .ref (qb 0)), (2, .int z1.1)] → W p l e rm_X7_copyTeam s m args below meth c H locs 0 0 (MQ below (jQv D A (fun u : Mo => wT cyI qa vt ++ wT cyI qb u) o) args s 0 0 A) (F0 m 11 ls []) := by
      refine jw_P (r := r1) (P := fun z1 : (Int32 × Mo) => ∀ (H : Heap) (locs : List Loc), va_P D vwCl (wT cyI qa vt ++ wT cyI qb z1.2) H → va_D A (wT cyI qa vt ++ wT cyI qb z1.2) → va_S A s.heap H locs → ∀ (ls : Array Slot), lv_has ls 3 [(0, .ref (qa 0)), (1, .ref (qb 0)), (2, .int z1.1)] → W p l e rm_X7_copyTeam s m args below meth c H locs 0 0 (MQ below (jQv D A (fun u : Mo => wT cyI qa vt ++ wT cyI qb u) o) args s 0 0 A) (F0 m 11 ls [])) ?_
      intro z1 x1 h hin hout H locs hP hD hS ls hl
      unfold X7_copyTeam_s11 at h
      refine lv_iload_n hx hb dX7_copyTeam_11 rfl (lv_at hl 2 rfl) ?_
      refine lv_iconst (v := (5 : Int32)) hx hb dX7_copyTeam_12 (by decide) ?_
      refine lv_icmp_ge (tgt := 34) hx hb dX7_copyTeam_13 (by decide) (fun c2 => ?_) (fun c2 => ?_)
      · have h := jt c2 h
        exact hex1 _ (hout _ (Option.some.inj h).symm).symm H locs hP hD hS ls (lv_sub hl [0, 1] rfl)
      · have h := jf c2 h
        refine lv_aload_n hx hb dX7_copyTeam_16 rfl (lv_at hl 1 rfl) ?_
        refine va_getN (D := D) (ci := 4) (v := .ref (qb 1)) (C := RX4) (T := TX4) (N := 4) hx hb hts in_X7_copyTeam_X4 hown hK.1 hP 2 rfl rfl 0 (by decide) (va_Nw.use rfl hK.2.1) (fun _ h9 => h9) rfl dX7_copyTeam_17 ?_
        refine lv_iload_n hx hb dX7_copyTeam_20 rfl (lv_at hl 2 rfl) ?_
        refine lv_aload_n hx hb dX7_copyTeam_21 rfl (lv_at hl 0 rfl) ?_
        refine va_getN (D := D) (ci := 4) (v := .ref (qa 1)) (C := RX4) (T := TX4) (N := 4) hx hb hts in_X7_copyTeam_X4 hown hK.1 hP 0 rfl rfl 0 (by decide) (va_Nw.use rfl hK.2.1) (fun _ h9 => h9) rfl dX7_copyTeam_22 ?_
        refine lv_iload_n hx hb dX7_copyTeam_25 rfl (lv_at hl 2 rfl) ?_
        obtain ⟨g3, h⟩ := jn h
        refine jald hx hb hK hP 1 rfl _ rfl g3 dX7_copyTeam_26 ?_
        obtain ⟨g4, h⟩ := jn h
        refine jast (w' := wT cyI qa vt ++ wT cyI qb (va_up z1.2.1 0 (upd (z1.2.1 0) z1.1.toNatClampNeg (vt.1 0 z1.1.toNatClampNeg)), z1.2.2)) hx hb hK hP hD hS 3 rfl _ rfl g4 rfl dX7_copyTeam_27 (fun H locs hP hD hS => ?_)
        refine lv_iinc (v := z1.1 + (1 : Int32)) (lv' := [(2, .int (z1.1 + (1 : Int32))), (0, .ref (qa 0)), (1, .ref (qb 0))]) hx hb dX7_copyTeam_28 hl (k := 2) rfl rfl (by decide) rfl (fun ls hl => ?_)
        refine lv_goto (tgt := 11) hx hb dX7_copyTeam_31 (by decide) ?_
        exact hin _ (Option.some.inj h).symm H locs hP hD hS ls (lv_sub hl [1, 2, 0] rfl)
    exact hlp1 _ _ hz1 H locs hP hD hS ls (lv_sub hl [1, 2, 0] rfl)
  exact key s.heap [] hP hD hS
theorem kw_X6_remember_1 : (.fieldLink RX6 11 "BellTheCat$Undo" "ring" "[LBellTheCat$Team;" : Cond) ∈ wsX6_remember := List.mem_of_getElem? (i := 1) rfl
theorem kw_X6_remember_2 : (.fieldLink RX6 18 "BellTheCat$Undo" "next" "I" : Cond) ∈ wsX6_remember := List.mem_of_getElem? (i := 2) rfl
theorem kw_X6_remember_3 : (.fieldLink RX6 26 "BellTheCat$Undo" "depth" "I" : Cond) ∈ wsX6_remember := List.mem_of_getElem? (i := 3) rfl
theorem kw_X6_remember_4 : (.methodLink RX6 29 Lib.Math.min.name : Cond) ∈ wsX6_remember := List.mem_of_getElem? (i := 4) rfl
theorem kw_X6_remember_5 : (.static Lib.Math.min.name : Cond) ∈ wsX6_remember := List.mem_of_getElem? (i := 5) rfl
theorem kw_X6_remember_6 : (.initialized "java/lang/Math" : Cond) ∈ wsX6_remember := List.mem_of_getElem? (i := 6) rfl
theorem kw_X6_remember_7 : (.code Lib.Math.min.name Lib.Math.min.code 2 (some .int) : Cond) ∈ wsX6_remember := List.mem_of_getElem? (i := 7) rfl
theorem kw_X6_remember_8 : (.static yX7_copyTeam : Cond) ∈ wsX6_remember := List.mem_of_getElem? (i := 8) rfl
theorem kw_X6_remember_9 : (.initialized RX7 : Cond) ∈ wsX6_remember := List.mem_of_getElem? (i := 9) rfl
theorem in_X6_remember_X6 : ∀ w ∈ wsX60, w ∈ wsX6_remember := fun w h => List.mem_cons_of_mem _ (List.mem_append_left _ (List.mem_append_right _ h))
abbrev rm_X6_remember : Room := { frames := 1, cells := 0, slots := 0, locals := 64 }
set_option maxHeartbeats 4000000 in
set_option maxRecDepth 100000 in
theorem c_X6_remember (l : Launch) (D : va_G) (cyI cyZ cyT : ClassId) (qa qb : Nat → Nat) (sz : Nat) (N : Nat) (vu : Mo) (vRg : Nat → Mo) (vt : Mo) (o : (Mo × (Nat → Mo))) (hf : f_X6_remember N vu vRg vt = some o) : Met l yX6_remember wsX6_remember rm_X6_remember (va_Pc [.ref (qa 0), .ref (qb 0)] (jM D cyI cyZ cyT (wU cyI cyT qa vu vRg ++ wT cyI qb vt) sz)) (jQv D (va_A (wU cyI cyT qa vu vRg ++ wT cyI qb vt) sz) (fun u : (Mo × (Nat → Mo)) => wU cyI cyT qa u.1 u.2 ++ wT cyI qb vt) o) 0 0 (va_A (wU cyI cyT qa vu vRg ++ wT cyI qb vt) sz) := by
  refine Met.ofW (cc := cX6_remember) (maxL := 2) (ret := none) (by decide) rfl ?_
  intro p e s m args below meth c s₁ B hml hv
  obtain ⟨rfl, hsz, hP, hK, hD0⟩ := hv
  have hx := B.exec
  have hb := B.bytes
  have hr := B.returns
  have hts := atoms_spec (ws := wsX6_remember) B.pre
  have hown : s.vm.findClass RX6 = some m.cls := findClass_of_methodNamed B.named
  have hlocks := B.notSynchronized
  subst hsz
  have hD := hD0.self (sz := s.heap.size)
  generalize hAe : va_A (wU cyI cyT qa vu vRg ++ wT cyI qb vt) s.heap.size = A at hD ⊢
  have hA : ∀ q : Nat, s.heap.size ≤ q → A q := fun q h => by rw [← hAe]; exact Or.inr h
  have hS : va_S A s.heap s.heap [] := va_S.rf
  have hl := lv_entry ([.ref (qa 0), .ref (qb 0)]) (n := 2) (Nat.le_of_ble_eq_true rfl)
  rw [lg_entry_eq]
  generalize (lg_sl ([.ref (qa 0), .ref (qb 0)]) ++ List.replicate (2 - (lg_sl ([.ref (qa 0), .ref (qb 0)])).length) Slot.unset).toArray = ls at hl ⊢
  have hl : lv_has ls 2 [(0, .ref (qa 0)), (1, .ref (qb 0))] := hl
  clear B
  generalize ([.ref (qa 0), .ref (qb 0)] : List Value).toArray = args at hts ⊢
  have key : ∀ (H : Heap) (locs : List Loc), va_P D vwCl (wU cyI cyT qa vu vRg ++ wT cyI qb vt) H → va_D A (wU cyI cyT qa vu vRg ++ wT cyI qb vt) → va_S A s.heap H locs → W p l e rm_X6_remember s m args below meth c H locs 0 0 (MQ below (jQv D A (fun u : (Mo × (Nat → Mo)) => wU cyI cyT qa u.1 u.2 ++ wT cyI qb vt) o) args s 0 0 A) (F0 m 0 ls []) := by
    intro H locs hP hD hS
    have h := hf
    unfold f_X6_remember at h
    refine lv_aload_n hx hb dX6_remember_0 rfl (lv_at hl 1 rfl) ?_
    refine lv_aload_n hx hb dX6_remember_1 rfl (lv_at hl 0 rfl) ?_
    refine va_get (D := D) (ci := 6) (v := .ref (qa 1)) (C := RX6) (T := TX6) (N := 3) hx hb hts in_X6_remember_X6 hown hK.1 hP 0 rfl rfl 0 (by decide) (hts _ kw_X6_remember_1) (fun _ h9 => h9) rfl dX6_remember_2 ?_
    refine lv_aload_n hx hb dX6_remember_5 rfl (lv_at hl 0 rfl) ?_
    refine va_get (D := D) (ci := 6) (v := .int (vu.2 0)) (C := RX6) (T := TX6) (N := 3) hx hb hts in_X6_remember_X6 hown hK.1 hP 0 rfl rfl 1 (by decide) (hts _ kw_X6_remember_2) (fun _ h9 => h9) rfl dX6_remember_6 ?_
    obtain ⟨g1, h⟩ := jn h
    refine va_aldq hx hb hK.1 hP 1 2 rfl rfl g1 dX6_remember_9 ?_
    by_cases c3 : (vu.2 0).toNatClampNeg = 0
    · have h := jt c3 h
      rw [c3]
      obtain ⟨z2, hz2, h⟩ := jb h
      refine jgv (w1 := fun u : Mo => wT cyI qb vt ++ wT cyI (fun k => qa (2 + k)) u) (wn := wU cyI cyT qa vu (va_up vRg 0 z2) ++ wT cyI qb vt) (jmN (As := [.ref (qb 0), .ref (qa 2)]) (rest := []) ⟨hx, hb, hml, hown, hts⟩ (c_X7_copyTeam l D cyI cyZ cyT qb (fun k => qa (2 + k)) H.size N vt (vRg 0) z2 hz2) ⟨va_cnB 2 hts gX6_remember_X7_copyTeam_n22 rfl rfl rfl hK.2.2.2.2.2.1 (hts _ kw_X6_remember_9) (by decide +kernel) ⟨Nat.le_of_ble_eq_true rfl, Nat.le_of_ble_eq_true rfl⟩, hts _ kw_X6_remember_8, trivial⟩ hK (hP.sub (ws' := wT cyI qb vt ++ wT cyI (fun k => qa (2 + k)) (vRg 0)) [18, 19, 2, 3] rfl) (hD.sub (ws' := wT cyI qb vt ++ wT cyI (fun k => qa (2 + k)) (vRg 0)) [18, 19, 2, 3] (by decide) rfl) rfl rfl hl.1 (Nat.le_of_ble_eq_true rfl) dX6_remember_10 ⟨Nat.le_of_ble_eq_true rfl, Nat.le_of_ble_eq_true rfl⟩) hP hD hS hA [18, 19, 2, 3] [0, 1, 4, 5, 6, 7, 8, 9, 10, 11, 12, 13, 14, 15, 16, 17] [0, 1, 18, 19, 2, 3, 4, 5, 6, 7, 8, 9, 10, 11, 12, 13, 14, 15, 16, 17] rfl rfl (by decide) (by decide) rfl (by decide) (fun H locs hP hD hS => ?_)
      clear hz2
      refine lv_aload_n hx hb dX6_remember_13 rfl (lv_at hl 0 rfl) ?_
      refine lv_aload_n hx hb dX6_remember_14 rfl (lv_at hl 0 rfl) ?_
      refine va_get (D := D) (ci := 6) (v := .int (vu.2 0)) (C := RX6) (T := TX6) (N := 3) hx hb hts in_X6_remember_X6 hown hK.1 hP 0 rfl rfl 1 (by decide) (hts _ kw_X6_remember_2) (fun _ h9 => h9) rfl dX6_remember_15 ?_
      refine lv_iconst (v := (1 : Int32)) hx hb dX6_remember_18 (by decide) ?_
      refine lv_iadd hx hb dX6_remember_19 ?_
      refine lv_bipush (v := (8 : Int32)) hx hb dX6_remember_20 (by decide) ?_
      refine lv_irem hx hb dX6_remember_22 (by decide) ?_
      refine va_put (D := D) (ci := 6) (v := .int (((vu.2 0) + (1 : Int32)) - ((vu.2 0) + (1 : Int32)) / (8 : Int32) * (8 : Int32))) (ty := .int) (C := RX6) (T := TX6) (N := 3) hx hb hts in_X6_remember_X6 tyX6 tyX6_ok nmX6 hown hK.1 hP hD hS 0 rfl rfl 1 (by decide) (hts _ kw_X6_remember_2) (fun _ h9 => h9) rfl (tyX6_ok 1 (by decide)) rfl rfl (Nat.le_of_ble_eq_true rfl) dX6_remember_23 (fun H locs hP hD hS => ?_)
      have hP : va_P D vwCl (wU cyI cyT qa (vu.1, va_up vu.2 0 (((vu.2 0) + (1 : Int32)) - ((vu.2 0) + (1 : Int32)) / (8 : Int32) * (8 : Int32))) (va_up vRg 0 z2) ++ wT cyI qb vt) H := hP
      have hD : va_D A (wU cyI cyT qa (vu.1, va_up vu.2 0 (((vu.2 0) + (1 : Int32)) - ((vu.2 0) + (1 : Int32)) / (8 : Int32) * (8 : Int32))) (va_up vRg 0 z2) ++ wT cyI qb vt) := hD
      refine lv_aload_n hx hb dX6_remember_26 rfl (lv_at hl 0 rfl) ?_
      refine lv_bipush (v := (8 : Int32)) hx hb dX6_remember_27 (by decide) ?_
      refine lv_aload_n hx hb dX6_remember_29 rfl (lv_at hl 0 rfl) ?_
      refine va_get (D := D) (ci := 6) (v := .int (vu.2 1)) (C := RX6) (T := TX6) (N := 3) hx hb hts in_X6_remember_X6 hown hK.1 hP 0 rfl rfl 2 (by decide) (hts _ kw_X6_remember_3) (fun _ h9 => h9) rfl dX6_remember_30 ?_
      refine lv_iconst (v := (1 : Int32)) hx hb dX6_remember_33 (by decide) ?_
      refine lv_iadd hx hb dX6_remember_34 ?_
      refine va_mmin hx hb (hml.trans hl.1.symm) hown (hts _ kw_X6_remember_4) (hts _ kw_X6_remember_5) (hts _ kw_X6_remember_6) (hts _ kw_X6_remember_7) (Nat.le_of_ble_eq_true rfl) (Nat.le_of_ble_eq_true rfl) (Nat.le_of_ble_eq_true rfl) (Nat.le_of_ble_eq_true rfl) dX6_remember_35 ?_
      refine va_put (D := D) (ci := 6) (v := .int (if ((vu.2 1) + (1 : Int32)) < (8 : Int32) then ((vu.2 1) + (1 : Int32)) else (8 : Int32))) (ty := .int) (C := RX6) (T := TX6) (N := 3) hx hb hts in_X6_remember_X6 tyX6 tyX6_ok nmX6 hown hK.1 hP hD hS 0 rfl rfl 2 (by decide) (hts _ kw_X6_remember_3) (fun _ h9 => h9) rfl (tyX6_ok 2 (by decide)) rfl rfl (Nat.le_of_ble_eq_true rfl) dX6_remember_38 (fun H locs hP hD hS => ?_)
      have hP : va_P D vwCl (wU cyI cyT qa (vu.1, va_up (va_up vu.2 0 (((vu.2 0) + (1 : Int32)) - ((vu.2 0) + (1 : Int32)) / (8 : Int32) * (8 : Int32))) 1 (if ((vu.2 1) + (1 : Int32)) < (8 : Int32) then ((vu.2 1) + (1 : Int32)) else (8 : Int32))) (va_up vRg 0 z2) ++ wT cyI qb vt) H := hP
      have hD : va_D A (wU cyI cyT qa (vu.1, va_up (va_up vu.2 0 (((vu.2 0) + (1 : Int32)) - ((vu.2 0) + (1 : Int32)) / (8 : Int32) * (8 : Int32))) 1 (if ((vu.2 1) + (1 : Int32)) < (8 : Int32) then ((vu.2 1) + (1 : Int32)) else (8 : Int32))) (va_up vRg 0 z2) ++ wT cyI qb vt) := hD
      exact W.vret hx hb hr (fun t ht _ => ⟨⟨_, rfl, Option.some.inj h, by rw [ht]; exact hP, hD⟩, hS.F ht⟩) hS.2.2 dX6_remember_41 hlocks
    have h := jf c3 h
    by_cases c5 : (vu.2 0).toNatClampNeg = 1
    · have h := jt c5 h
      rw [c5]
      obtain ⟨z4, hz4, h⟩ := jb h
      refine jgv (w1 := fun u : Mo => wT cyI qb vt ++ wT cyI (fun k => qa (4 + k)) u) (wn := wU cyI cyT qa vu (va_up vRg 1 z4) ++ wT cyI qb vt) (jmN (As := [.ref (qb 0), .ref (qa 4)]) (rest := []) ⟨hx, hb, hml, hown, hts⟩ (c_X7_copyTeam l D cyI cyZ cyT qb (fun k => qa (4 + k)) H.size N vt (vRg 1) z4 hz4) ⟨va_cnB 2 hts gX6_remember_X7_copyTeam_n22 rfl rfl rfl hK.2.2.2.2.2.1 (hts _ kw_X6_remember_9) (by decide +kernel) ⟨Nat.le_of_ble_eq_true rfl, Nat.le_of_ble_eq_true rfl⟩, hts _ kw_X6_remember_8, trivial⟩ hK (hP.sub (ws' := wT cyI qb vt ++ wT cyI (fun k => qa (4 + k)) (vRg 1)) [18, 19, 4, 5] rfl) (hD.sub (ws' := wT cyI qb vt ++ wT cyI (fun k => qa (4 + k)) (vRg 1)) [18, 19, 4, 5] (by decide) rfl) rfl rfl hl.1 (Nat.le_of_ble_eq_true rfl) dX6_remember_10 ⟨Nat.le_of_ble_eq_true rfl, Nat.le_of_ble_eq_true rfl⟩) hP hD hS hA [18, 19, 4, 5] [0, 1, 2, 3, 6, 7, 8, 9, 10, 11, 12, 13, 14, 15, 16, 17] [0, 1, 2, 3, 18, 19, 4, 5, 6, 7, 8, 9, 10, 11, 12, 13, 14, 15, 16, 17] rfl rfl (by decide) (by decide) rfl (by decide) (fun H locs hP hD hS => ?_)
      clear hz4
      refine lv_aload_n hx hb dX6_remember_13 rfl (lv_at hl 0 rfl) ?_
      refine lv_aload_n hx hb dX6_remember_14 rfl (lv_at hl 0 rfl) ?_
      refine va_get (D := D) (ci := 6) (v := .int (vu.2 0)) (C := RX6) (T := TX6) (N := 3) hx hb hts in_X6_remember_X6 hown hK.1 hP 0 rfl rfl 1 (by decide) (hts _ kw_X6_remember_2) (fun _ h9 => h9) rfl dX6_remember_15 ?_
      refine lv_iconst (v := (1 : Int32)) hx hb dX6_remember_18 (by decide) ?_
      refine lv_iadd hx hb dX6_remember_19 ?_
      refine lv_bipush (v := (8 : Int32)) hx hb dX6_remember_20 (by decide) ?_
      refine lv_irem hx hb dX6_remember_22 (by decide) ?_
      refine va_put (D := D) (ci := 6) (v := .int (((vu.2 0) + (1 : Int32)) - ((vu.2 0) + (1 : Int32)) / (8 : Int32) * (8 : Int32))) (ty := .int) (C := RX6) (T := TX6) (N := 3) hx hb hts in_X6_remember_X6 tyX6 tyX6_ok nmX6 hown hK.1 hP hD hS 0 rfl rfl 1 (by decide) (hts _ kw_X6_remember_2) (fun _ h9 => h9) rfl (tyX6_ok 1 (by decide)) rfl rfl (Nat.le_of_ble_eq_true rfl) dX6_remember_23 (fun H locs hP hD hS => ?_)
      have hP : va_P D vwCl (wU cyI cyT qa (vu.1, va_up vu.2 0 (((vu.2 0) + (1 : Int32)) - ((vu.2 0) + (1 : Int32)) / (8 : Int32) * (8 : Int32))) (va_up vRg 1 z4) ++ wT cyI qb vt) H := hP
      have hD : va_D A (wU cyI cyT qa (vu.1, va_up vu.2 0 (((vu.2 0) + (1 : Int32)) - ((vu.2 0) + (1 : Int32)) / (8 : Int32) * (8 : Int32))) (va_up vRg 1 z4) ++ wT cyI qb vt) := hD
      refine lv_aload_n hx hb dX6_remember_26 rfl (lv_at hl 0 rfl) ?_
      refine lv_bipush (v := (8 : Int32)) hx hb dX6_remember_27 (by decide) ?_
      refine lv_aload_n hx hb dX6_remember_29 rfl (lv_at hl 0 rfl) ?_
      refine va_get (D := D) (ci := 6) (v := .int (vu.2 1)) (C := RX6) (T := TX6) (N := 3) hx hb hts in_X6_remember_X6 hown hK.1 hP 0 rfl rfl 2 (by decide) (hts _ kw_X6_remember_3) (fun _ h9 => h9) rfl dX6_remember_30 ?_
      refine lv_iconst (v := (1 : Int32)) hx hb dX6_remember_33 (by decide) ?_
      refine lv_iadd hx hb dX6_remember_34 ?_
      refine va_mmin hx hb (hml.trans hl.1.symm) hown (hts _ kw_X6_remember_4) (hts _ kw_X6_remember_5) (hts _ kw_X6_remember_6) (hts _ kw_X6_remember_7) (Nat.le_of_ble_eq_true rfl) (Nat.le_of_ble_eq_true rfl) (Nat.le_of_ble_eq_true rfl) (Nat.le_of_ble_eq_true rfl) dX6_remember_35 ?_
      refine va_put (D := D) (ci := 6) (v := .int (if ((vu.2 1) + (1 : Int32)) < (8 : Int32) then ((vu.2 1) + (1 : Int32)) else (8 : Int32))) (ty := .int) (C := RX6) (T := TX6) (N := 3) hx hb hts in_X6_remember_X6 tyX6 tyX6_ok nmX6 hown hK.1 hP hD hS 0 rfl rfl 2 (by decide) (hts _ kw_X6_remember_3) (fun _ h9 => h9) rfl (tyX6_ok 2 (by decide)) rfl rfl (Nat.le_of_ble_eq_true rfl) dX6_remember_38 (fun H locs hP hD hS => ?_)
      have hP : va_P D vwCl (wU cyI cyT qa (vu.1, va_up (va_up vu.2 0 (((vu.2 0) + (1 : Int32)) - ((vu.2 0) + (1 : Int32)) / (8 : Int32) * (8 : Int32))) 1 (if ((vu.2 1) + (1 : Int32)) < (8 : Int32) then ((vu.2 1) + (1 : Int32)) else (8 : Int32))) (va_up vRg 1 z4) ++ wT cyI qb vt) H := hP
      have hD : va_D A (wU cyI cyT qa (vu.1, va_up (va_up vu.2 0 (((vu.2 0) + (1 : Int32)) - ((vu.2 0) + (1 : Int32)) / (8 : Int32) * (8 : Int32))) 1 (if ((vu.2 1) + (1 : Int32)) < (8 : Int32) then ((vu.2 1) + (1 : Int32)) else (8 : Int32))) (va_up vRg 1 z4) ++ wT cyI qb vt) := hD
      exact W.vret hx hb hr (fun t ht _ => ⟨⟨_, rfl, Option.some.inj h, by rw [ht]; exact hP, hD⟩, hS.F ht⟩) hS.2.2 dX6_remember_41 hlocks
    have h := jf c5 h
    by_cases c7 : (vu.2 0).toNatClampNeg = 2
    · have h := jt c7 h
      rw [c7]
      obtain ⟨z6, hz6, h⟩ := jb h
      refine jgv (w1 := fun u : Mo => wT cyI qb vt ++ wT cyI (fun k => qa (6 + k)) u) (wn := wU cyI cyT qa vu (va_up vRg 2 z6) ++ wT cyI qb vt) (jmN (As := [.ref (qb 0), .ref (qa 6)]) (rest := []) ⟨hx, hb, hml, hown, hts⟩ (c_X7_copyTeam l D cyI cyZ cyT qb (fun k => qa (6 + k)) H.size N vt (vRg 2) z6 hz6) ⟨va_cnB 2 hts gX6_remember_X7_copyTeam_n22 rfl rfl rfl hK.2.2.2.2.2.1 (hts _ kw_X6_remember_9) (by decide +kernel) ⟨Nat.le_of_ble_eq_true rfl, Nat.le_of_ble_eq_true rfl⟩, hts _ kw_X6_remember_8, trivial⟩ hK (hP.sub (ws' := wT cyI qb vt ++ wT cyI (fun k => qa (6 + k)) (vRg 2)) [18, 19, 6, 7] rfl) (hD.sub (ws' := wT cyI qb vt ++ wT cyI (fun k => qa (6 + k)) (vRg 2)) [18, 19, 6, 7] (by decide) rfl) rfl rfl hl.1 (Nat.le_of_ble_eq_true rfl) dX6_remember_10 ⟨Nat.le_of_ble_eq_true rfl, Nat.le_of_ble_eq_true rfl⟩) hP hD hS hA [18, 19, 6, 7] [0, 1, 2, 3, 4, 5, 8, 9, 10, 11, 12, 13, 14, 15, 16, 17] [0, 1, 2, 3, 4, 5, 18, 19, 6, 7, 8, 9, 10, 11, 12, 13, 14, 15, 16, 17] rfl rfl (by decide) (by decide) rfl (by decide) (fun H locs hP hD hS => ?_)
      clear hz6
      refine lv_aload_n hx hb dX6_remember_13 rfl (lv_at hl 0 rfl) ?_
      refine lv_aload_n hx hb dX6_remember_14 rfl (lv_at hl 0 rfl) ?_
      refine va_get (D := D) (ci := 6) (v := .int (vu.2 0)) (C := RX6) (T := TX6) (N := 3) hx hb hts in_X6_remember_X6 hown hK.1 hP 0 rfl rfl 1 (by decide) (hts _ kw_X6_remember_2) (fun _ h9 => h9) rfl dX6_remember_15 ?_
      refine lv_iconst (v := (1 : Int32)) hx hb dX6_remember_18 (by decide) ?_
      refine lv_iadd hx hb dX6_remember_19 ?_
      refine lv_bipush (v := (8 : Int32)) hx hb dX6_remember_20 (by decide) ?_
      refine lv_irem hx hb dX6_remember_22 (by decide) ?_
      refine va_put (D := D) (ci := 6) (v := .int (((vu.2 0) + (1 : Int32)) - ((vu.2 0) + (1 : Int32)) / (8 : Int32) * (8 : Int32))) (ty := .int) (C := RX6) (T := TX6) (N := 3) hx hb hts in_X6_remember_X6 tyX6 tyX6_ok nmX6 hown hK.1 hP hD hS 0 rfl rfl 1 (by decide) (hts _ kw_X6_remember_2) (fun _ h9 => h9) rfl (tyX6_ok 1 (by decide)) rfl rfl (Nat.le_of_ble_eq_true rfl) dX6_remember_23 (fun H locs hP hD hS => ?_)
      have hP : va_P D vwCl (wU cyI cyT qa (vu.1, va_up vu.2 0 (((vu.2 0) + (1 : Int32)) - ((vu.2 0) + (1 : Int32)) / (8 : Int32) * (8 : Int32))) (va_up vRg 2 z6) ++ wT cyI qb vt) H := hP
      have hD : va_D A (wU cyI cyT qa (vu.1, va_up vu.2 0 (((vu.2 0) + (1 : Int32)) - ((vu.2 0) + (1 : Int32)) / (8 : Int32) * (8 : Int32))) (va_up vRg 2 z6) ++ wT cyI qb vt) := hD
      refine lv_aload_n hx hb dX6_remember_26 rfl (lv_at hl 0 rfl) ?_
      refine lv_bipush (v := (8 : Int32)) hx hb dX6_remember_27 (by decide) ?_
      refine lv_aload_n hx hb dX6_remember_29 rfl (lv_at hl 0 rfl) ?_
      refine va_get (D := D) (ci := 6) (v := .int (vu.2 1)) (C := RX6) (T := TX6) (N := 3) hx hb hts in_X6_remember_X6 hown hK.1 hP 0 rfl rfl 2 (by decide) (hts _ kw_X6_remember_3) (fun _ h9 => h9) rfl dX6_remember_30 ?_
      refine lv_iconst (v := (1 : Int32)) hx hb dX6_remember_33 (by decide) ?_
      refine lv_iadd hx hb dX6_remember_34 ?_
      refine va_mmin hx hb (hml.trans hl.1.symm) hown (hts _ kw_X6_remember_4) (hts _ kw_X6_remember_5) (hts _ kw_X6_remember_6) (hts _ kw_X6_remember_7) (Nat.le_of_ble_eq_true rfl) (Nat.le_of_ble_eq_true rfl) (Nat.le_of_ble_eq_true rfl) (Nat.le_of_ble_eq_true rfl) dX6_remember_35 ?_
      refine va_put (D := D) (ci := 6) (v := .int (if ((vu.2 1) + (1 : Int32)) < (8 : Int32) then ((vu.2 1) + (1 : Int32)) else (8 : Int32))) (ty := .int) (C := RX6) (T := TX6) (N := 3) hx hb hts in_X6_remember_X6 tyX6 tyX6_ok nmX6 hown hK.1 hP hD hS 0 rfl rfl 2 (by decide) (hts _ kw_X6_remember_3) (fun _ h9 => h9) rfl (tyX6_ok 2 (by decide)) rfl rfl (Nat.le_of_ble_eq_true rfl) dX6_remember_38 (fun H locs hP hD hS => ?_)
      have hP : va_P D vwCl (wU cyI cyT qa (vu.1, va_up (va_up vu.2 0 (((vu.2 0) + (1 : Int32)) - ((vu.2 0) + (1 : Int32)) / (8 : Int32) * (8 : Int32))) 1 (if ((vu.2 1) + (1 : Int32)) < (8 : Int32) then ((vu.2 1) + (1 : Int32)) else (8 : Int32))) (va_up vRg 2 z6) ++ wT cyI qb vt) H := hP
      have hD : va_D A (wU cyI cyT qa (vu.1, va_up (va_up vu.2 0 (((vu.2 0) + (1 : Int32)) - ((vu.2 0) + (1 : Int32)) / (8 : Int32) * (8 : Int32))) 1 (if ((vu.2 1) + (1 : Int32)) < (8 : Int32) then ((vu.2 1) + (1 : Int32)) else (8 : Int32))) (va_up vRg 2 z6) ++ wT cyI qb vt) := hD
      exact W.vret hx hb hr (fun t ht _ => ⟨⟨_, rfl, Option.some.inj h, by rw [ht]; exact hP, hD⟩, hS.F ht⟩) hS.2.2 dX6_remember_41 hlocks
    have h := jf c7 h
    by_cases c9 : (vu.2 0).toNatClampNeg = 3
    · have h := jt c9 h
      rw [c9]
      obtain ⟨z8, hz8, h⟩ := jb h
      refine jgv (w1 := fun u : Mo => wT cyI qb vt ++ wT cyI (fun k => qa (8 + k)) u) (wn := wU cyI cyT qa vu (va_up vRg 3 z8) ++ wT cyI qb vt) (jmN (As := [.ref (qb 0), .ref (qa 8)]) (rest := []) ⟨hx, hb, hml, hown, hts⟩ (c_X7_copyTeam l D cyI cyZ cyT qb (fun k => qa (8 + k)) H.size N vt (vRg 3) z8 hz8) ⟨va_cnB 2 hts gX6_remember_X7_copyTeam_n22 rfl rfl rfl hK.2.2.2.2.2.1 (hts _ kw_X6_remember_9) (by decide +kernel) ⟨Nat.le_of_ble_eq_true rfl, Nat.le_of_ble_eq_true rfl⟩, hts _ kw_X6_remember_8, trivial⟩ hK (hP.sub (ws' := wT cyI qb vt ++ wT cyI (fun k => qa (8 + k)) (vRg 3)) [18, 19, 8, 9] rfl) (hD.sub (ws' := wT cyI qb vt ++ wT cyI (fun k => qa (8 + k)) (vRg 3)) [18, 19, 8, 9] (by decide) rfl) rfl rfl hl.1 (Nat.le_of_ble_eq_true rfl) dX6_remember_10 ⟨Nat.le_of_ble_eq_true rfl, Nat.le_of_ble_eq_true rfl⟩) hP hD hS hA [18, 19, 8, 9] [0, 1, 2, 3, 4, 5, 6, 7, 10, 11, 12, 13, 14, 15, 16, 17] [0, 1, 2, 3, 4, 5, 6, 7, 18, 19, 8, 9, 10, 11, 12, 13, 14, 15, 16, 17] rfl rfl (by decide) (by decide) rfl (by decide) (fun H locs hP hD hS => ?_)
      clear hz8
      refine lv_aload_n hx hb dX6_remember_13 rfl (lv_at hl 0 rfl) ?_
      refine lv_aload_n hx hb dX6_remember_14 rfl (lv_at hl 0 rfl) ?_
      refine va_get (D := D) (ci := 6) (v := .int (vu.2 0)) (C := RX6) (T := TX6) (N := 3) hx hb hts in_X6_remember_X6 hown hK.1 hP 0 rfl rfl 1 (by decide) (hts _ kw_X6_remember_2) (fun _ h9 => h9) rfl dX6_remember_15 ?_
      refine lv_iconst (v := (1 : Int32)) hx hb dX6_remember_18 (by decide) ?_
      refine lv_iadd hx hb dX6_remember_19 ?_
      refine lv_bipush (v := (8 : Int32)) hx hb dX6_remember_20 (by decide) ?_
      refine lv_irem hx hb dX6_remember_22 (by decide) ?_
      refine va_put (D := D) (ci := 6) (v := .int (((vu.2 0) + (1 : Int32)) - ((vu.2 0) + (1 : Int32)) / (8 : Int32) * (8 : Int32))) (ty := .int) (C := RX6) (T := TX6) (N := 3) hx hb hts in_X6_remember_X6 tyX6 tyX6_ok nmX6 hown hK.1 hP hD hS 0 rfl rfl 1 (by decide) (hts _ kw_X6_remember_2) (fun _ h9 => h9) rfl (tyX6_ok 1 (by decide)) rfl rfl (Nat.le_of_ble_eq_true rfl) dX6_remember_23 (fun H locs hP hD hS => ?_)
      have hP : va_P D vwCl (wU cyI cyT qa (vu.1, va_up vu.2 0 (((vu.2 0) + (1 : Int32)) - ((vu.2 0) + (1 : Int32)) / (8 : Int32) * (8 : Int32))) (va_up vRg 3 z8) ++ wT cyI qb vt) H := hP
      have hD : va_D A (wU cyI cyT qa (vu.1, va_up vu.2 0 (((vu.2 0) + (1 : Int32)) - ((vu.2 0) + (1 : Int32)) / (8 : Int32) * (8 : Int32))) (va_up vRg 3 z8) ++ wT cyI qb vt) := hD
      refine lv_aload_n hx hb dX6_remember_26 rfl (lv_at hl 0 rfl) ?_
      refine lv_bipush (v := (8 : Int32)) hx hb dX6_remember_27 (by decide) ?_
      refine lv_aload_n hx hb dX6_remember_29 rfl (lv_at hl 0 rfl) ?_
      refine va_get (D := D) (ci := 6) (v := .int (vu.2 1)) (C := RX6) (T := TX6) (N := 3) hx hb hts in_X6_remember_X6 hown hK.1 hP 0 rfl rfl 2 (by decide) (hts _ kw_X6_remember_3) (fun _ h9 => h9) rfl dX6_remember_30 ?_
      refine lv_iconst (v := (1 : Int32)) hx hb dX6_remember_33 (by decide) ?_
      refine lv_iadd hx hb dX6_remember_34 ?_
      refine va_mmin hx hb (hml.trans hl.1.symm) hown (hts _ kw_X6_remember_4) (hts _ kw_X6_remember_5) (hts _ kw_X6_remember_6) (hts _ kw_X6_remember_7) (Nat.le_of_ble_eq_true rfl) (Nat.le_of_ble_eq_true rfl) (Nat.le_of_ble_eq_true rfl) (Nat.le_of_ble_eq_true rfl) dX6_remember_35 ?_
      refine va_put (D := D) (ci := 6) (v := .int (if ((vu.2 1) + (1 : Int32)) < (8 : Int32) then ((vu.2 1) + (1 : Int32)) else (8 : Int32))) (ty := .int) (C := RX6) (T := TX6) (N := 3) hx hb hts in_X6_remember_X6 tyX6 tyX6_ok nmX6 hown hK.1 hP hD hS 0 rfl rfl 2 (by decide) (hts _ kw_X6_remember_3) (fun _ h9 => h9) rfl (tyX6_ok 2 (by decide)) rfl rfl (Nat.le_of_ble_eq_true rfl) dX6_remember_38 (fun H locs hP hD hS => ?_)
      have hP : va_P D vwCl (wU cyI cyT qa (vu.1, va_up (va_up vu.2 0 (((vu.2 0) + (1 : Int32)) - ((vu.2 0) + (1 : Int32)) / (8 : Int32) * (8 : Int32))) 1 (if ((vu.2 1) + (1 : Int32)) < (8 : Int32) then ((vu.2 1) + (1 : Int32)) else (8 : Int32))) (va_up vRg 3 z8) ++ wT cyI qb vt) H := hP
      have hD : va_D A (wU cyI cyT qa (vu.1, va_up (va_up vu.2 0 (((vu.2 0) + (1 : Int32)) - ((vu.2 0) + (1 : Int32)) / (8 : Int32) * (8 : Int32))) 1 (if ((vu.2 1) + (1 : Int32)) < (8 : Int32) then ((vu.2 1) + (1 : Int32)) else (8 : Int32))) (va_up vRg 3 z8) ++ wT cyI qb vt) := hD
      exact W.vret hx hb hr (fun t ht _ => ⟨⟨_, rfl, Option.some.inj h, by rw [ht]; exact hP, hD⟩, hS.F ht⟩) hS.2.2 dX6_remember_41 hlocks
    have h := jf c9 h
    by_cases c11 : (vu.2 0).toNatClampNeg = 4
    · have h := jt c11 h
      rw [c11]
      obtain ⟨z10, hz10, h⟩ := jb h
      refine jgv (w1 := fun u : Mo => wT cyI qb vt ++ wT cyI (fun k => qa (10 + k)) u) (wn := wU cyI cyT qa vu (va_up vRg 4 z10) ++ wT cyI qb vt) (jmN (As := [.ref (qb 0), .ref (qa 10)]) (rest := []) ⟨hx, hb, hml, hown, hts⟩ (c_X7_copyTeam l D cyI cyZ cyT qb (fun k => qa (10 + k)) H.size N vt (vRg 4) z10 hz10) ⟨va_cnB 2 hts gX6_remember_X7_copyTeam_n22 rfl rfl rfl hK.2.2.2.2.2.1 (hts _ kw_X6_remember_9) (by decide +kernel) ⟨Nat.le_of_ble_eq_true rfl, Nat.le_of_ble_eq_true rfl⟩, hts _ kw_X6_remember_8, trivial⟩ hK (hP.sub (ws' := wT cyI qb vt ++ wT cyI (fun k => qa (10 + k)) (vRg 4)) [18, 19, 10, 11] rfl) (hD.sub (ws' := wT cyI qb vt ++ wT cyI (fun k => qa (10 + k)) (vRg 4)) [18, 19, 10, 11] (by decide) rfl) rfl rfl hl.1 (Nat.le_of_ble_eq_true rfl) dX6_remember_10 ⟨Nat.le_of_ble_eq_true rfl, Nat.le_of_ble_eq_true rfl⟩) hP hD hS hA [18, 19, 10, 11] [0, 1, 2, 3, 4, 5, 6, 7, 8, 9, 12, 13, 14, 15, 16, 17] [0, 1, 2, 3, 4, 5, 6, 7, 8, 9, 18, 19, 10, 11, 12, 13, 14, 15, 16, 17] rfl rfl (by decide) (by decide) rfl (by decide) (fun H locs hP hD hS => ?_)
      clear hz10
      refine lv_aload_n hx hb dX6_remember_13 rfl (lv_at hl 0 rfl) ?_
      refine lv_aload_n hx hb dX6_remember_14 rfl (lv_at hl 0 rfl) ?_
      refine va_get (D := D) (ci := 6) (v := .int (vu.2 0)) (C := RX6) (T := TX6) (N := 3) hx hb hts in_X6_remember_X6 hown hK.1 hP 0 rfl rfl 1 (by decide) (hts _ kw_X6_remember_2) (fun _ h9 => h9) rfl dX6_remember_15 ?_
      refine lv_iconst (v := (1 : Int32)) hx hb dX6_remember_18 (by decide) ?_
      refine lv_iadd hx hb dX6_remember_19 ?_
      refine lv_bipush (v := (8 : Int32)) hx hb dX6_remember_20 (by decide) ?_
      refine lv_irem hx hb dX6_remember_22 (by decide) ?_
      refine va_put (D := D) (ci := 6) (v := .int (((vu.2 0) + (1 : Int32)) - ((vu.2 0) + (1 : Int32)) / (8 : Int32) * (8 : Int32))) (ty := .int) (C := RX6) (T := TX6) (N := 3) hx hb hts in_X6_remember_X6 tyX6 tyX6_ok nmX6 hown hK.1 hP hD hS 0 rfl rfl 1 (by decide) (hts _ kw_X6_remember_2) (fun _ h9 => h9) rfl (tyX6_ok 1 (by decide)) rfl rfl (Nat.le_of_ble_eq_true rfl) dX6_remember_23 (fun H locs hP hD hS => ?_)
      have hP : va_P D vwCl (wU cyI cyT qa (vu.1, va_up vu.2 0 (((vu.2 0) + (1 : Int32)) - ((vu.2 0) + (1 : Int32)) / (8 : Int32) * (8 : Int32))) (va_up vRg 4 z10) ++ wT cyI qb vt) H := hP
      have hD : va_D A (wU cyI cyT qa (vu.1, va_up vu.2 0 (((vu.2 0) + (1 : Int32)) - ((vu.2 0) + (1 : Int32)) / (8 : Int32) * (8 : Int32))) (va_up vRg 4 z10) ++ wT cyI qb vt) := hD
      refine lv_aload_n hx hb dX6_remember_26 rfl (lv_at hl 0 rfl) ?_
      refine lv_bipush (v := (8 : Int32)) hx hb dX6_remember_27 (by decide) ?_
      refine lv_aload_n hx hb dX6_remember_29 rfl (lv_at hl 0 rfl) ?_
      refine va_get (D := D) (ci := 6) (v := .int (vu.2 1)) (C := RX6) (T := TX6) (N := 3) hx hb hts in_X6_remember_X6 hown hK.1 hP 0 rfl rfl 2 (by decide) (hts _ kw_X6_remember_3) (fun _ h9 => h9) rfl dX6_remember_30 ?_
      refine lv_iconst (v := (1 : Int32)) hx hb dX6_remember_33 (by decide) ?_
      refine lv_iadd hx hb dX6_remember_34 ?_
      refine va_mmin hx hb (hml.trans hl.1.symm) hown (hts _ kw_X6_remember_4) (hts _ kw_X6_remember_5) (hts _ kw_X6_remember_6) (hts _ kw_X6_remember_7) (Nat.le_of_ble_eq_true rfl) (Nat.le_of_ble_eq_true rfl) (Nat.le_of_ble_eq_true rfl) (Nat.le_of_ble_eq_true rfl) dX6_remember_35 ?_
      refine va_put (D := D) (ci := 6) (v := .int (if ((vu.2 1) + (1 : Int32)) < (8 : Int32) then ((vu.2 1) + (1 : Int32)) else (8 : Int32))) (ty := .int) (C := RX6) (T := TX6) (N := 3) hx hb hts in_X6_remember_X6 tyX6 tyX6_ok nmX6 hown hK.1 hP hD hS 0 rfl rfl 2 (by decide) (hts _ kw_X6_remember_3) (fun _ h9 => h9) rfl (tyX6_ok 2 (by decide)) rfl rfl (Nat.le_of_ble_eq_true rfl) dX6_remember_38 (fun H locs hP hD hS => ?_)
      have hP : va_P D vwCl (wU cyI cyT qa (vu.1, va_up (va_up vu.2 0 (((vu.2 0) + (1 : Int32)) - ((vu.2 0) + (1 : Int32)) / (8 : Int32) * (8 : Int32))) 1 (if ((vu.2 1) + (1 : Int32)) < (8 : Int32) then ((vu.2 1) + (1 : Int32)) else (8 : Int32))) (va_up vRg 4 z10) ++ wT cyI qb vt) H := hP
      have hD : va_D A (wU cyI cyT qa (vu.1, va_up (va_up vu.2 0 (((vu.2 0) + (1 : Int32)) - ((vu.2 0) + (1 : Int32)) / (8 : Int32) * (8 : Int32))) 1 (if ((vu.2 1) + (1 : Int32)) < (8 : Int32) then ((vu.2 1) + (1 : Int32)) else (8 : Int32))) (va_up vRg 4 z10) ++ wT cyI qb vt) := hD
      exact W.vret hx hb hr (fun t ht _ => ⟨⟨_, rfl, Option.some.inj h, by rw [ht]; exact hP, hD⟩, hS.F ht⟩) hS.2.2 dX6_remember_41 hlocks
    have h := jf c11 h
    by_cases c13 : (vu.2 0).toNatClampNeg = 5
    · have h := jt c13 h
      rw [c13]
      obtain ⟨z12, hz12, h⟩ := jb h
      refine jgv (w1 := fun u : Mo => wT cyI qb vt ++ wT cyI (fun k => qa (12 + k)) u) (wn := wU cyI cyT qa vu (va_up vRg 5 z12) ++ wT cyI qb vt) (jmN (As := [.ref (qb 0), .ref (qa 12)]) (rest := []) ⟨hx, hb, hml, hown, hts⟩ (c_X7_copyTeam l D cyI cyZ cyT qb (fun k => qa (12 + k)) H.size N vt (vRg 5) z12 hz12) ⟨va_cnB 2 hts gX6_remember_X7_copyTeam_n22 rfl rfl rfl hK.2.2.2.2.2.1 (hts _ kw_X6_remember_9) (by decide +kernel) ⟨Nat.le_of_ble_eq_true rfl, Nat.le_of_ble_eq_true rfl⟩, hts _ kw_X6_remember_8, trivial⟩ hK (hP.sub (ws' := wT cyI qb vt ++ wT cyI (fun k => qa (12 + k)) (vRg 5)) [18, 19, 12, 13] rfl) (hD.sub (ws' := wT cyI qb vt ++ wT cyI (fun k => qa (12 + k)) (vRg 5)) [18, 19, 12, 13] (by decide) rfl) rfl rfl hl.1 (Nat.le_of_ble_eq_true rfl) dX6_remember_10 ⟨Nat.le_of_ble_eq_true rfl, Nat.le_of_ble_eq_true rfl⟩) hP hD hS hA [18, 19, 12, 13] [0, 1, 2, 3, 4, 5, 6, 7, 8, 9, 10, 11, 14, 15, 16, 17] [0, 1, 2, 3, 4, 5, 6, 7, 8, 9, 10, 11, 18, 19, 12, 13, 14, 15, 16, 17] rfl rfl (by decide) (by decide) rfl (by decide) (fun H locs hP hD hS => ?_)
      clear hz12
      refine lv_aload_n hx hb dX6_remember_13 rfl (lv_at hl 0 rfl) ?_
      refine lv_aload_n hx hb dX6_remember_14 rfl (lv_at hl 0 rfl) ?_
      refine va_get (D := D) (ci := 6) (v := .int (vu.2 0)) (C := RX6) (T := TX6) (N := 3) hx hb hts in_X6_remember_X6 hown hK.1 hP 0 rfl rfl 1 (by decide) (hts _ kw_X6_remember_2) (fun _ h9 => h9) rfl dX6_remember_15 ?_
      refine lv_iconst (v := (1 : Int32)) hx hb dX6_remember_18 (by decide) ?_
      refine lv_iadd hx hb dX6_remember_19 ?_
      refine lv_bipush (v := (8 : Int32)) hx hb dX6_remember_20 (by decide) ?_
      refine lv_irem hx hb dX6_remember_22 (by decide) ?_
      refine va_put (D := D) (ci := 6) (v := .int (((vu.2 0) + (1 : Int32)) - ((vu.2 0) + (1 : Int32)) / (8 : Int32) * (8 : Int32))) (ty := .int) (C := RX6) (T := TX6) (N := 3) hx hb hts in_X6_remember_X6 tyX6 tyX6_ok nmX6 hown hK.1 hP hD hS 0 rfl rfl 1 (by decide) (hts _ kw_X6_remember_2) (fun _ h9 => h9) rfl (tyX6_ok 1 (by decide)) rfl rfl (Nat.le_of_ble_eq_true rfl) dX6_remember_23 (fun H locs hP hD hS => ?_)
      have hP : va_P D vwCl (wU cyI cyT qa (vu.1, va_up vu.2 0 (((vu.2 0) + (1 : Int32)) - ((vu.2 0) + (1 : Int32)) / (8 : Int32) * (8 : Int32))) (va_up vRg 5 z12) ++ wT cyI qb vt) H := hP
      have hD : va_D A (wU cyI cyT qa (vu.1, va_up vu.2 0 (((vu.2 0) + (1 : Int32)) - ((vu.2 0) + (1 : Int32)) / (8 : Int32) * (8 : Int32))) (va_up vRg 5 z12) ++ wT cyI qb vt) := hD
      refine lv_aload_n hx hb dX6_remember_26 rfl (lv_at hl 0 rfl) ?_
      refine lv_bipush (v := (8 : Int32)) hx hb dX6_remember_27 (by decide) ?_
      refine lv_aload_n hx hb dX6_remember_29 rfl (lv_at hl 0 rfl) ?_
      refine va_get (D := D) (ci := 6) (v := .int (vu.2 1)) (C := RX6) (T := TX6) (N := 3) hx hb hts in_X6_remember_X6 hown hK.1 hP 0 rfl rfl 2 (by decide) (hts _ kw_X6_remember_3) (fun _ h9 => h9) rfl dX6_remember_30 ?_
      refine lv_iconst (v := (1 : Int32)) hx hb dX6_remember_33 (by decide) ?_
      refine lv_iadd hx hb dX6_remember_34 ?_
      refine va_mmin hx hb (hml.trans hl.1.symm) hown (hts _ kw_X6_remember_4) (hts _ kw_X6_remember_5) (hts _ kw_X6_remember_6) (hts _ kw_X6_remember_7) (Nat.le_of_ble_eq_true rfl) (Nat.le_of_ble_eq_true rfl) (Nat.le_of_ble_eq_true rfl) (Nat.le_of_ble_eq_true rfl) dX6_remember_35 ?_
      refine va_put (D := D) (ci := 6) (v := .int (if ((vu.2 1) + (1 : Int32)) < (8 : Int32) then ((vu.2 1) + (1 : Int32)) else (8 : Int32))) (ty := .int) (C := RX6) (T := TX6) (N := 3) hx hb hts in_X6_remember_X6 tyX6 tyX6_ok nmX6 hown hK.1 hP hD hS 0 rfl rfl 2 (by decide) (hts _ kw_X6_remember_3) (fun _ h9 => h9) rfl (tyX6_ok 2 (by decide)) rfl rfl (Nat.le_of_ble_eq_true rfl) dX6_remember_38 (fun H locs hP hD hS => ?_)
      have hP : va_P D vwCl (wU cyI cyT qa (vu.1, va_up (va_up vu.2 0 (((vu.2 0) + (1 : Int32)) - ((vu.2 0) + (1 : Int32)) / (8 : Int32) * (8 : Int32))) 1 (if ((vu.2 1) + (1 : Int32)) < (8 : Int32) then ((vu.2 1) + (1 : Int32)) else (8 : Int32))) (va_up vRg 5 z12) ++ wT cyI qb vt) H := hP
      have hD : va_D A (wU cyI cyT qa (vu.1, va_up (va_up vu.2 0 (((vu.2 0) + (1 : Int32)) - ((vu.2 0) + (1 : Int32)) / (8 : Int32) * (8 : Int32))) 1 (if ((vu.2 1) + (1 : Int32)) < (8 : Int32) then ((vu.2 1) + (1 : Int32)) else (8 : Int32))) (va_up vRg 5 z12) ++ wT cyI qb vt) := hD
      exact W.vret hx hb hr (fun t ht _ => ⟨⟨_, rfl, Option.some.inj h, by rw [ht]; exact hP, hD⟩, hS.F ht⟩) hS.2.2 dX6_remember_41 hlocks
    have h := jf c13 h
    by_cases c15 : (vu.2 0).toNatClampNeg = 6
    · have h := jt c15 h
      rw [c15]
      obtain ⟨z14, hz14, h⟩ := jb h
      refine jgv (w1 := fun u : Mo => wT cyI qb vt ++ wT cyI (fun k => qa (14 + k)) u) (wn := wU cyI cyT qa vu (va_up vRg 6 z14) ++ wT cyI qb vt) (jmN (As := [.ref (qb 0), .ref (qa 14)]) (rest := []) ⟨hx, hb, hml, hown, hts⟩ (c_X7_copyTeam l D cyI cyZ cyT qb (fun k => qa (14 + k)) H.size N vt (vRg 6) z14 hz14) ⟨va_cnB 2 hts gX6_remember_X7_copyTeam_n22 rfl rfl rfl hK.2.2.2.2.2.1 (hts _ kw_X6_remember_9) (by decide +kernel) ⟨Nat.le_of_ble_eq_true rfl, Nat.le_of_ble_eq_true rfl⟩, hts _ kw_X6_remember_8, trivial⟩ hK (hP.sub (ws' := wT cyI qb vt ++ wT cyI (fun k => qa (14 + k)) (vRg 6)) [18, 19, 14, 15] rfl) (hD.sub (ws' := wT cyI qb vt ++ wT cyI (fun k => qa (14 + k)) (vRg 6)) [18, 19, 14, 15] (by decide) rfl) rfl rfl hl.1 (Nat.le_of_ble_eq_true rfl) dX6_remember_10 ⟨Nat.le_of_ble_eq_true rfl, Nat.le_of_ble_eq_true rfl⟩) hP hD hS hA [18, 19, 14, 15] [0, 1, 2, 3, 4, 5, 6, 7, 8, 9, 10, 11, 12, 13, 16, 17] [0, 1, 2, 3, 4, 5, 6, 7, 8, 9, 10, 11, 12, 13, 18, 19, 14, 15, 16, 17] rfl rfl (by decide) (by decide) rfl (by decide) (fun H locs hP hD hS => ?_)
      clear hz14
      refine lv_aload_n hx hb dX6_remember_13 rfl (lv_at hl 0 rfl) ?_
      refine lv_aload_n hx hb dX6_remember_14 rfl (lv_at hl 0 rfl) ?_
      refine va_get (D := D) (ci := 6) (v := .int (vu.2 0)) (C := RX6) (T := TX6) (N := 3) hx hb hts in_X6_remember_X6 hown hK.1 hP 0 rfl rfl 1 (by decide) (hts _ kw_X6_remember_2) (fun _ h9 => h9) rfl dX6_remember_15 ?_
      refine lv_iconst (v := (1 : Int32)) hx hb dX6_remember_18 (by decide) ?_
      refine lv_iadd hx hb dX6_remember_19 ?_
      refine lv_bipush (v := (8 : Int32)) hx hb dX6_remember_20 (by decide) ?_
      refine lv_irem hx hb dX6_remember_22 (by decide) ?_
      refine va_put (D := D) (ci := 6) (v := .int (((vu.2 0) + (1 : Int32)) - ((vu.2 0) + (1 : Int32)) / (8 : Int32) * (8 : Int32))) (ty := .int) (C := RX6) (T := TX6) (N := 3) hx hb hts in_X6_remember_X6 tyX6 tyX6_ok nmX6 hown hK.1 hP hD hS 0 rfl rfl 1 (by decide) (hts _ kw_X6_remember_2) (fun _ h9 => h9) rfl (tyX6_ok 1 (by decide)) rfl rfl (Nat.le_of_ble_eq_true rfl) dX6_remember_23 (fun H locs hP hD hS => ?_)
      have hP : va_P D vwCl (wU cyI cyT qa (vu.1, va_up vu.2 0 (((vu.2 0) + (1 : Int32)) - ((vu.2 0) + (1 : Int32)) / (8 : Int32) * (8 : Int32))) (va_up vRg 6 z14) ++ wT cyI qb vt) H := hP
      have hD : va_D A (wU cyI cyT qa (vu.1, va_up vu.2 0 (((vu.2 0) + (1 : Int32)) - ((vu.2 0) + (1 : Int32)) / (8 : Int32) * (8 : Int32))) (va_up vRg 6 z14) ++ wT cyI qb vt) := hD
      refine lv_aload_n hx hb dX6_remember_26 rfl (lv_at hl 0 rfl) ?_
      refine lv_bipush (v := (8 : Int32)) hx hb dX6_remember_27 (by decide) ?_
      refine lv_aload_n hx hb dX6_remember_29 rfl (lv_at hl 0 rfl) ?_
      refine va_get (D := D) (ci := 6) (v := .int (vu.2 1)) (C := RX6) (T := TX6) (N := 3) hx hb hts in_X6_remember_X6 hown hK.1 hP 0 rfl rfl 2 (by decide) (hts _ kw_X6_remember_3) (fun _ h9 => h9) rfl dX6_remember_30 ?_
      refine lv_iconst (v := (1 : Int32)) hx hb dX6_remember_33 (by decide) ?_
      refine lv_iadd hx hb dX6_remember_34 ?_
      refine va_mmin hx hb (hml.trans hl.1.symm) hown (hts _ kw_X6_remember_4) (hts _ kw_X6_remember_5) (hts _ kw_X6_remember_6) (hts _ kw_X6_remember_7) (Nat.le_of_ble_eq_true rfl) (Nat.le_of_ble_eq_true rfl) (Nat.le_of_ble_eq_true rfl) (Nat.le_of_ble_eq_true rfl) dX6_remember_35 ?_
      refine va_put (D := D) (ci := 6) (v := .int (if ((vu.2 1) + (1 : Int32)) < (8 : Int32) then ((vu.2 1) + (1 : Int32)) else (8 : Int32))) (ty := .int) (C := RX6) (T := TX6) (N := 3) hx hb hts in_X6_remember_X6 tyX6 tyX6_ok nmX6 hown hK.1 hP hD hS 0 rfl rfl 2 (by decide) (hts _ kw_X6_remember_3) (fun _ h9 => h9) rfl (tyX6_ok 2 (by decide)) rfl rfl (Nat.le_of_ble_eq_true rfl) dX6_remember_38 (fun H locs hP hD hS => ?_)
      have hP : va_P D vwCl (wU cyI cyT qa (vu.1, va_up (va_up vu.2 0 (((vu.2 0) + (1 : Int32)) - ((vu.2 0) + (1 : Int32)) / (8 : Int32) * (8 : Int32))) 1 (if ((vu.2 1) + (1 : Int32)) < (8 : Int32) then ((vu.2 1) + (1 : Int32)) else (8 : Int32))) (va_up vRg 6 z14) ++ wT cyI qb vt) H := hP
      have hD : va_D A (wU cyI cyT qa (vu.1, va_up (va_up vu.2 0 (((vu.2 0) + (1 : Int32)) - ((vu.2 0) + (1 : Int32)) / (8 : Int32) * (8 : Int32))) 1 (if ((vu.2 1) + (1 : Int32)) < (8 : Int32) then ((vu.2 1) + (1 : Int32)) else (8 : Int32))) (va_up vRg 6 z14) ++ wT cyI qb vt) := hD
      exact W.vret hx hb hr (fun t ht _ => ⟨⟨_, rfl, Option.some.inj h, by rw [ht]; exact hP, hD⟩, hS.F ht⟩) hS.2.2 dX6_remember_41 hlocks
    have h := jf c15 h
    by_cases c17 : (vu.2 0).toNatClampNeg = 7
    · have h := jt c17 h
      rw [c17]
      obtain ⟨z16, hz16, h⟩ := jb h
      refine jgv (w1 := fun u : Mo => wT cyI qb vt ++ wT cyI (fun k => qa (16 + k)) u) (wn := wU cyI cyT qa vu (va_up vRg 7 z16) ++ wT cyI qb vt) (jmN (As := [.ref (qb 0), .ref (qa 16)]) (rest := []) ⟨hx, hb, hml, hown, hts⟩ (c_X7_copyTeam l D cyI cyZ cyT qb (fun k => qa (16 + k)) H.size N vt (vRg 7) z16 hz16) ⟨va_cnB 2 hts gX6_remember_X7_copyTeam_n22 rfl rfl rfl hK.2.2.2.2.2.1 (hts _ kw_X6_remember_9) (by decide +kernel) ⟨Nat.le_of_ble_eq_true rfl, Nat.le_of_ble_eq_true rfl⟩, hts _ kw_X6_remember_8, trivial⟩ hK (hP.sub (ws' := wT cyI qb vt ++ wT cyI (fun k => qa (16 + k)) (vRg 7)) [18, 19, 16, 17] rfl) (hD.sub (ws' := wT cyI qb vt ++ wT cyI (fun k => qa (16 + k)) (vRg 7)) [18, 19, 16, 17] (by decide) rfl) rfl rfl hl.1 (Nat.le_of_ble_eq_true rfl) dX6_remember_10 ⟨Nat.le_of_ble_eq_true rfl, Nat.le_of_ble_eq_true rfl⟩) hP hD hS hA [18, 19, 16, 17] [0, 1, 2, 3, 4, 5, 6, 7, 8, 9, 10, 11, 12, 13, 14, 15] [0, 1, 2, 3, 4, 5, 6, 7, 8, 9, 10, 11, 12, 13, 14, 15, 18, 19, 16, 17] rfl rfl (by decide) (by decide) rfl (by decide) (fun H locs hP hD hS => ?_)
      clear hz16
      refine lv_aload_n hx hb dX6_remember_13 rfl (lv_at hl 0 rfl) ?_
      refine lv_aload_n hx hb dX6_remember_14 rfl (lv_at hl 0 rfl) ?_
      refine va_get (D := D) (ci := 6) (v := .int (vu.2 0)) (C := RX6) (T := TX6) (N := 3) hx hb hts in_X6_remember_X6 hown hK.1 hP 0 rfl rfl 1 (by decide) (hts _ kw_X6_remember_2) (fun _ h9 => h9) rfl dX6_remember_15 ?_
      refine lv_iconst (v := (1 : Int32)) hx hb dX6_remember_18 (by decide) ?_
      refine lv_iadd hx hb dX6_remember_19 ?_
      refine lv_bipush (v := (8 : Int32)) hx hb dX6_remember_20 (by decide) ?_
      refine lv_irem hx hb dX6_remember_22 (by decide) ?_
      refine va_put (D := D) (ci := 6) (v := .int (((vu.2 0) + (1 : Int32)) - ((vu.2 0) + (1 : Int32)) / (8 : Int32) * (8 : Int32))) (ty := .int) (C := RX6) (T := TX6) (N := 3) hx hb hts in_X6_remember_X6 tyX6 tyX6_ok nmX6 hown hK.1 hP hD hS 0 rfl rfl 1 (by decide) (hts _ kw_X6_remember_2) (fun _ h9 => h9) rfl (tyX6_ok 1 (by decide)) rfl rfl (Nat.le_of_ble_eq_true rfl) dX6_remember_23 (fun H locs hP hD hS => ?_)
      have hP : va_P D vwCl (wU cyI cyT qa (vu.1, va_up vu.2 0 (((vu.2 0) + (1 : Int32)) - ((vu.2 0) + (1 : Int32)) / (8 : Int32) * (8 : Int32))) (va_up vRg 7 z16) ++ wT cyI qb vt) H := hP
      have hD : va_D A (wU cyI cyT qa (vu.1, va_up vu.2 0 (((vu.2 0) + (1 : Int32)) - ((vu.2 0) + (1 : Int32)) / (8 : Int32) * (8 : Int32))) (va_up vRg 7 z16) ++ wT cyI qb vt) := hD
      refine lv_aload_n hx hb dX6_remember_26 rfl (lv_at hl 0 rfl) ?_
      refine lv_bipush (v := (8 : Int32)) hx hb dX6_remember_27 (by decide) ?_
      refine lv_aload_n hx hb dX6_remember_29 rfl (lv_at hl 0 rfl) ?_
      refine va_get (D := D) (ci := 6) (v := .int (vu.2 1)) (C := RX6) (T := TX6) (N := 3) hx hb hts in_X6_remember_X6 hown hK.1 hP 0 rfl rfl 2 (by decide) (hts _ kw_X6_remember_3) (fun _ h9 => h9) rfl dX6_remember_30 ?_
      refine lv_iconst (v := (1 : Int32)) hx hb dX6_remember_33 (by decide) ?_
      refine lv_iadd hx hb dX6_remember_34 ?_
      refine va_mmin hx hb (hml.trans hl.1.symm) hown (hts _ kw_X6_remember_4) (hts _ kw_X6_remember_5) (hts _ kw_X6_remember_6) (hts _ kw_X6_remember_7) (Nat.le_of_ble_eq_true rfl) (Nat.le_of_ble_eq_true rfl) (Nat.le_of_ble_eq_true rfl) (Nat.le_of_ble_eq_true rfl) dX6_remember_35 ?_
      refine va_put (D := D) (ci := 6) (v := .int (if ((vu.2 1) + (1 : Int32)) < (8 : Int32) then ((vu.2 1) + (1 : Int32)) else (8 : Int32))) (ty := .int) (C := RX6) (T := TX6) (N := 3) hx hb hts in_X6_remember_X6 tyX6 tyX6_ok nmX6 hown hK.1 hP hD hS 0 rfl rfl 2 (by decide) (hts _ kw_X6_remember_3) (fun _ h9 => h9) rfl (tyX6_ok 2 (by decide)) rfl rfl (Nat.le_of_ble_eq_true rfl) dX6_remember_38 (fun H locs hP hD hS => ?_)
      have hP : va_P D vwCl (wU cyI cyT qa (vu.1, va_up (va_up vu.2 0 (((vu.2 0) + (1 : Int32)) - ((vu.2 0) + (1 : Int32)) / (8 : Int32) * (8 : Int32))) 1 (if ((vu.2 1) + (1 : Int32)) < (8 : Int32) then ((vu.2 1) + (1 : Int32)) else (8 : Int32))) (va_up vRg 7 z16) ++ wT cyI qb vt) H := hP
      have hD : va_D A (wU cyI cyT qa (vu.1, va_up (va_up vu.2 0 (((vu.2 0) + (1 : Int32)) - ((vu.2 0) + (1 : Int32)) / (8 : Int32) * (8 : Int32))) 1 (if ((vu.2 1) + (1 : Int32)) < (8 : Int32) then ((vu.2 1) + (1 : Int32)) else (8 : Int32))) (va_up vRg 7 z16) ++ wT cyI qb vt) := hD
      exact W.vret hx hb hr (fun t ht _ => ⟨⟨_, rfl, Option.some.inj h, by rw [ht]; exact hP, hD⟩, hS.F ht⟩) hS.2.2 dX6_remember_41 hlocks
    have h := jf c17 h
    cases h
  exact key s.heap [] hP hD hS
theorem kw_X6_restore_1 : (.fieldLink RX6 26 "BellTheCat$Undo" "depth" "I" : Cond) ∈ wsX6_restore := List.mem_of_getElem? (i := 1) rfl
theorem kw_X6_restore_2 : (.fieldLink RX6 18 "BellTheCat$Undo" "next" "I" : Cond) ∈ wsX6_restore := List.mem_of_getElem? (i := 2) rfl
theorem kw_X6_restore_3 : (.fieldLink RX6 11 "BellTheCat$Undo" "ring" "[LBellTheCat$Team;" : Cond) ∈ wsX6_restore := List.mem_of_getElem? (i := 3) rfl
theorem kw_X6_restore_4 : (.static yX7_copyTeam : Cond) ∈ wsX6_restore := List.mem_of_getElem? (i := 4) rfl
theorem kw_X6_restore_5 : (.initialized RX7 : Cond) ∈ wsX6_restore := List.mem_of_getElem? (i := 5) rfl
theorem in_X6_restore_X6 : ∀ w ∈ wsX60, w ∈ wsX6_restore := fun w h => List.mem_cons_of_mem _ (List.mem_append_left _ (List.mem_append_right _ h))
abbrev rm_X6_restore : Room := { frames := 1, cells := 0, slots := 0, locals := 22 }
set_option maxHeartbeats 4000000 in
set_option maxRecDepth 100000 in
theorem c_X6_restore (l : Launch) (D : va_G) (cyI cyZ cyT : ClassId) (qa qb : Nat → Nat) (sz : Nat) (N : Nat) (vu : Mo) (vRg : Nat → Mo) (vt : Mo) (o : (Int32 × Mo × Mo)) (hf : f_X6_restore N vu vRg vt = some o) : Met l yX6_restore wsX6_restore rm_X6_restore (va_Pc [.ref (qa 0), .ref (qb 0)] (jM D cyI cyZ cyT (wU cyI cyT qa vu vRg ++ wT cyI qb vt) sz)) (jQi D (va_A (wU cyI cyT qa vu vRg ++ wT cyI qb vt) sz) (fun u : (Mo × Mo) => wU cyI cyT qa u.1 vRg ++ wT cyI qb u.2) o) 0 0 (va_A (wU cyI cyT qa vu vRg ++ wT cyI qb vt) sz) := by
  refine Met.ofW (cc := cX6_restore) (maxL := 2) (ret := (some .boolean)) (by decide) rfl ?_
  intro p e s m args below meth c s₁ B hml hv
  obtain ⟨rfl, hsz, hP, hK, hD0⟩ := hv
  have hx := B.exec
  have hb := B.bytes
  have hr := B.returns
  have hts := atoms_spec (ws := wsX6_restore) B.pre
  have hown : s.vm.findClass RX6 = some m.cls := findClass_of_methodNamed B.named
  have hlocks := B.notSynchronized
  subst hsz
  have hD := hD0.self (sz := s.heap.size)
  generalize hAe : va_A (wU cyI cyT qa vu vRg ++ wT cyI qb vt) s.heap.size = A at hD ⊢
  have hA : ∀ q : Nat, s.heap.size ≤ q → A q := fun q h => by rw [← hAe]; exact Or.inr h
  have hS : va_S A s.heap s.heap [] := va_S.rf
  have hl := lv_entry ([.ref (qa 0), .ref (qb 0)]) (n := 2) (Nat.le_of_ble_eq_true rfl)
  rw [lg_entry_eq]
  generalize (lg_sl ([.ref (qa 0), .ref (qb 0)]) ++ List.replicate (2 - (lg_sl ([.ref (qa 0), .ref (qb 0)])).length) Slot.unset).toArray = ls at hl ⊢
  have hl : lv_has ls 2 [(0, .ref (qa 0)), (1, .ref (qb 0))] := hl
  clear B
  generalize ([.ref (qa 0), .ref (qb 0)] : List Value).toArray = args at hts ⊢
  have key : ∀ (H : Heap) (locs : List Loc), va_P D vwCl (wU cyI cyT qa vu vRg ++ wT cyI qb vt) H → va_D A (wU cyI cyT qa vu vRg ++ wT cyI qb vt) → va_S A s.heap H locs → W p l e rm_X6_restore s m args below meth c H locs 0 0 (MQ below (jQi D A (fun u : (Mo × Mo) => wU cyI cyT qa u.1 vRg ++ wT cyI qb u.2) o) args s 0 0 A) (F0 m 0 ls []) := by
    intro H locs hP hD hS
    have h := hf
    unfold f_X6_restore at h
    refine lv_aload_n hx hb dX6_restore_0 rfl (lv_at hl 0 rfl) ?_
    refine va_get (D := D) (ci := 6) (v := .int (vu.2 1)) (C := RX6) (T := TX6) (N := 3) hx hb hts in_X6_restore_X6 hown hK.1 hP 0 rfl rfl 2 (by decide) (hts _ kw_X6_restore_1) (fun _ h9 => h9) rfl dX6_restore_1 ?_
    refine lv_if_gt (tgt := 9) hx hb dX6_restore_4 (by decide) (fun c1 => ?_) (fun c1 => ?_)
    · have h := jt c1 h
      refine lv_aload_n hx hb dX6_restore_9 rfl (lv_at hl 0 rfl) ?_
      refine lv_aload_n hx hb dX6_restore_10 rfl (lv_at hl 0 rfl) ?_
      refine va_get (D := D) (ci := 6) (v := .int (vu.2 0)) (C := RX6) (T := TX6) (N := 3) hx hb hts in_X6_restore_X6 hown hK.1 hP 0 rfl rfl 1 (by decide) (hts _ kw_X6_restore_2) (fun _ h9 => h9) rfl dX6_restore_11 ?_
      refine lv_bipush (v := (8 : Int32)) hx hb dX6_restore_14 (by decide) ?_
      refine lv_iadd hx hb dX6_restore_16 ?_
      refine lv_iconst (v := (1 : Int32)) hx hb dX6_restore_17 (by decide) ?_
      refine lv_isub hx hb dX6_restore_18 ?_
      refine lv_bipush (v := (8 : Int32)) hx hb dX6_restore_19 (by decide) ?_
      refine lv_irem hx hb dX6_restore_21 (by decide) ?_
      refine va_put (D := D) (ci := 6) (v := .int ((((vu.2 0) + (8 : Int32)) - (1 : Int32)) - (((vu.2 0) + (8 : Int32)) - (1 : Int32)) / (8 : Int32) * (8 : Int32))) (ty := .int) (C := RX6) (T := TX6) (N := 3) hx hb hts in_X6_restore_X6 tyX6 tyX6_ok nmX6 hown hK.1 hP hD hS 0 rfl rfl 1 (by decide) (hts _ kw_X6_restore_2) (fun _ h9 => h9) rfl (tyX6_ok 1 (by decide)) rfl rfl (Nat.le_of_ble_eq_true rfl) dX6_restore_22 (fun H locs hP hD hS => ?_)
      have hP : va_P D vwCl (wU cyI cyT qa (vu.1, va_up vu.2 0 ((((vu.2 0) + (8 : Int32)) - (1 : Int32)) - (((vu.2 0) + (8 : Int32)) - (1 : Int32)) / (8 : Int32) * (8 : Int32))) vRg ++ wT cyI qb vt) H := hP
      have hD : va_D A (wU cyI cyT qa (vu.1, va_up vu.2 0 ((((vu.2 0) + (8 : Int32)) - (1 : Int32)) - (((vu.2 0) + (8 : Int32)) - (1 : Int32)) / (8 : Int32) * (8 : Int32))) vRg ++ wT cyI qb vt) := hD
      refine lv_aload_n hx hb dX6_restore_25 rfl (lv_at hl 0 rfl) ?_
      refine lv_dup hx hb dX6_restore_26 rfl ?_
      refine va_get (D := D) (ci := 6) (v := .int (vu.2 1)) (C := RX6) (T := TX6) (N := 3) hx hb hts in_X6_restore_X6 hown hK.1 hP 0 rfl rfl 2 (by decide) (hts _ kw_X6_restore_1) (fun _ h9 => h9) rfl dX6_restore_27 ?_
      refine lv_iconst (v := (1 : Int32)) hx hb dX6_restore_30 (by decide) ?_
      refine lv_isub hx hb dX6_restore_31 ?_
      refine va_put (D := D) (ci := 6) (v := .int ((vu.2 1) - (1 : Int32))) (ty := .int) (C := RX6) (T := TX6) (N := 3) hx hb hts in_X6_restore_X6 tyX6 tyX6_ok nmX6 hown hK.1 hP hD hS 0 rfl rfl 2 (by decide) (hts _ kw_X6_restore_1) (fun _ h9 => h9) rfl (tyX6_ok 2 (by decide)) rfl rfl (Nat.le_of_ble_eq_true rfl) dX6_restore_32 (fun H locs hP hD hS => ?_)
      have hP : va_P D vwCl (wU cyI cyT qa (vu.1, va_up (va_up vu.2 0 ((((vu.2 0) + (8 : Int32)) - (1 : Int32)) - (((vu.2 0) + (8 : Int32)) - (1 : Int32)) / (8 : Int32) * (8 : Int32))) 1 ((vu.2 1) - (1 : Int32))) vRg ++ wT cyI qb vt) H := hP
      have hD : va_D A (wU cyI cyT qa (vu.1, va_up (va_up vu.2 0 ((((vu.2 0) + (8 : Int32)) - (1 : Int32)) - (((vu.2 0) + (8 : Int32)) - (1 : Int32)) / (8 : Int32) * (8 : Int32))) 1 ((vu.2 1) - (1 : Int32))) vRg ++ wT cyI qb vt) := hD
      refine lv_aload_n hx hb dX6_restore_35 rfl (lv_at hl 0 rfl) ?_
      refine va_get (D := D) (ci := 6) (v := .ref (qa 1)) (C := RX6) (T := TX6) (N := 3) hx hb hts in_X6_restore_X6 hown hK.1 hP 0 rfl rfl 0 (by decide) (hts _ kw_X6_restore_3) (fun _ h9 => h9) rfl dX6_restore_36 ?_
      refine lv_aload_n hx hb dX6_restore_39 rfl (lv_at hl 0 rfl) ?_
      refine va_get (D := D) (ci := 6) (v := .int ((((vu.2 0) + (8 : Int32)) - (1 : Int32)) - (((vu.2 0) + (8 : Int32)) - (1 : Int32)) / (8 : Int32) * (8 : Int32))) (C := RX6) (T := TX6) (N := 3) hx hb hts in_X6_restore_X6 hown hK.1 hP 0 rfl rfl 1 (by decide) (hts _ kw_X6_restore_2) (fun _ h9 => h9) rfl dX6_restore_40 ?_
      obtain ⟨g2, h⟩ := jn h
      refine va_aldq hx hb hK.1 hP 1 2 rfl rfl g2 dX6_restore_43 ?_
      by_cases c4 : ((((vu.2 0) + (8 : Int32)) - (1 : Int32)) - (((vu.2 0) + (8 : Int32)) - (1 : Int32)) / (8 : Int32) * (8 : Int32)).toNatClampNeg = 0
      · have h := jt c4 h
        rw [c4]
        refine lv_aload_n hx hb dX6_restore_44 rfl (lv_at hl 1 rfl) ?_
        obtain ⟨z3, hz3, h⟩ := jb h
        refine jgv (w1 := fun u : Mo => wT cyI (fun k => qa (2 + k)) (vRg 0) ++ wT cyI qb u) (wn := wU cyI cyT qa (vu.1, va_up (va_up vu.2 0 ((((vu.2 0) + (8 : Int32)) - (1 : Int32)) - (((vu.2 0) + (8 : Int32)) - (1 : Int32)) / (8 : Int32) * (8 : Int32))) 1 ((vu.2 1) - (1 : Int32))) vRg ++ wT cyI qb z3) (jmN (As := [.ref (qa 2), .ref (qb 0)]) (rest := []) ⟨hx, hb, hml, hown, hts⟩ (c_X7_copyTeam l D cyI cyZ cyT (fun k => qa (2 + k)) qb H.size N (vRg 0) vt z3 hz3) ⟨va_cnB 2 hts gX6_restore_X7_copyTeam_n22 rfl rfl rfl hK.2.2.2.2.2.1 (hts _ kw_X6_restore_5) (by decide +kernel) ⟨Nat.le_of_ble_eq_true rfl, Nat.le_of_ble_eq_true rfl⟩, hts _ kw_X6_restore_4, trivial⟩ hK (hP.sub (ws' := wT cyI (fun k => qa (2 + k)) (vRg 0) ++ wT cyI qb vt) [2, 3, 18, 19] rfl) (hD.sub (ws' := wT cyI (fun k => qa (2 + k)) (vRg 0) ++ wT cyI qb vt) [2, 3, 18, 19] (by decide) rfl) rfl rfl hl.1 (Nat.le_of_ble_eq_true rfl) dX6_restore_45 ⟨Nat.le_of_ble_eq_true rfl, Nat.le_of_ble_eq_true rfl⟩) hP hD hS hA [2, 3, 18, 19] [0, 1, 4, 5, 6, 7, 8, 9, 10, 11, 12, 13, 14, 15, 16, 17] [0, 1, 16, 17, 2, 3, 4, 5, 6, 7, 8, 9, 10, 11, 12, 13, 14, 15, 18, 19] rfl rfl (by decide) (by decide) rfl (by decide) (fun H locs hP hD hS => ?_)
        clear hz3
        refine lv_iconst (v := (1 : Int32)) hx hb dX6_restore_48 (by decide) ?_
        exact W.zret hx hb hr rfl (fun t ht _ => ⟨⟨_, _, rfl, Option.some.inj h, by rw [ht]; exact hP, hD⟩, hS.F ht⟩) hS.2.2 dX6_restore_49 hlocks
      have h := jf c4 h
      by_cases c6 : ((((vu.2 0) + (8 : Int32)) - (1 : Int32)) - (((vu.2 0) + (8 : Int32)) - (1 : Int32)) / (8 : Int32) * (8 : Int32)).toNatClampNeg = 1
      · have h := jt c6 h
        rw [c6]
        refine lv_aload_n hx hb dX6_restore_44 rfl (lv_at hl 1 rfl) ?_
        obtain ⟨z5, hz5, h⟩ := jb h
        refine jgv (w1 := fun u : Mo => wT cyI (fun k => qa (4 + k)) (vRg 1) ++ wT cyI qb u) (wn := wU cyI cyT qa (vu.1, va_up (va_up vu.2 0 ((((vu.2 0) + (8 : Int32)) - (1 : Int32)) - (((vu.2 0) + (8 : Int32)) - (1 : Int32)) / (8 : Int32) * (8 : Int32))) 1 ((vu.2 1) - (1 : Int32))) vRg ++ wT cyI qb z5) (jmN (As := [.ref (qa 4), .ref (qb 0)]) (rest := []) ⟨hx, hb, hml, hown, hts⟩ (c_X7_copyTeam l D cyI cyZ cyT (fun k => qa (4 + k)) qb H.size N (vRg 1) vt z5 hz5) ⟨va_cnB 2 hts gX6_restore_X7_copyTeam_n22 rfl rfl rfl hK.2.2.2.2.2.1 (hts _ kw_X6_restore_5) (by decide +kernel) ⟨Nat.le_of_ble_eq_true rfl, Nat.le_of_ble_eq_true rfl⟩, hts _ kw_X6_restore_4, trivial⟩ hK (hP.sub (ws' := wT cyI (fun k => qa (4 + k)) (vRg 1) ++ wT cyI qb vt) [4, 5, 18, 19] rfl) (hD.sub (ws' := wT cyI (fun k => qa (4 + k)) (vRg 1) ++ wT cyI qb vt) [4, 5, 18, 19] (by decide) rfl) rfl rfl hl.1 (Nat.le_of_ble_eq_true rfl) dX6_restore_45 ⟨Nat.le_of_ble_eq_true rfl, Nat.le_of_ble_eq_true rfl⟩) hP hD hS hA [4, 5, 18, 19] [0, 1, 2, 3, 6, 7, 8, 9, 10, 11, 12, 13, 14, 15, 16, 17] [0, 1, 2, 3, 16, 17, 4, 5, 6, 7, 8, 9, 10, 11, 12, 13, 14, 15, 18, 19] rfl rfl (by decide) (by decide) rfl (by decide) (fun H locs hP hD hS => ?_)
        clear hz5
        refine lv_iconst (v := (1 : Int32)) hx hb dX6_restore_48 (by decide) ?_
        exact W.zret hx hb hr rfl (fun t ht _ => ⟨⟨_, _, rfl, Option.some.inj h, by rw [ht]; exact hP, hD⟩, hS.F ht⟩) hS.2.2 dX6_restore_49 hlocks
      have h := jf c6 h
      by_cases c8 : ((((vu.2 0) + (8 : Int32)) - (1 : Int32)) - (((vu.2 0) + (8 : Int32)) - (1 : Int32)) / (8 : Int32) * (8 : Int32)).toNatClampNeg = 2
      · have h := jt c8 h
        rw [c8]
        refine lv_aload_n hx hb dX6_restore_44 rfl (lv_at hl 1 rfl) ?_
        obtain ⟨z7, hz7, h⟩ := jb h
        refine jgv (w1 := fun u : Mo => wT cyI (fun k => qa (6 + k)) (vRg 2) ++ wT cyI qb u) (wn := wU cyI cyT qa (vu.1, va_up (va_up vu.2 0 ((((vu.2 0) + (8 : Int32)) - (1 : Int32)) - (((vu.2 0) + (8 : Int32)) - (1 : Int32)) / (8 : Int32) * (8 : Int32))) 1 ((vu.2 1) - (1 : Int32))) vRg ++ wT cyI qb z7) (jmN (As := [.ref (qa 6), .ref (qb 0)]) (rest := []) ⟨hx, hb, hml, hown, hts⟩ (c_X7_copyTeam l D cyI cyZ cyT (fun k => qa (6 + k)) qb H.size N (vRg 2) vt z7 hz7) ⟨va_cnB 2 hts gX6_restore_X7_copyTeam_n22 rfl rfl rfl hK.2.2.2.2.2.1 (hts _ kw_X6_restore_5) (by decide +kernel) ⟨Nat.le_of_ble_eq_true rfl, Nat.le_of_ble_eq_true rfl⟩, hts _ kw_X6_restore_4, trivial⟩ hK (hP.sub (ws' := wT cyI (fun k => qa (6 + k)) (vRg 2) ++ wT cyI qb vt) [6, 7, 18, 19] rfl) (hD.sub (ws' := wT cyI (fun k => qa (6 + k)) (vRg 2) ++ wT cyI qb vt) [6, 7, 18, 19] (by decide) rfl) rfl rfl hl.1 (Nat.le_of_ble_eq_true rfl) dX6_restore_45 ⟨Nat.le_of_ble_eq_true rfl, Nat.le_of_ble_eq_true rfl⟩) hP hD hS hA [6, 7, 18, 19] [0, 1, 2, 3, 4, 5, 8, 9, 10, 11, 12, 13, 14, 15, 16, 17] [0, 1, 2, 3, 4, 5, 16, 17, 6, 7, 8, 9, 10, 11, 12, 13, 14, 15, 18, 19] rfl rfl (by decide) (by decide) rfl (by decide) (fun H locs hP hD hS => ?_)
        clear hz7
        refine lv_iconst (v := (1 : Int32)) hx hb dX6_restore_48 (by decide) ?_
        exact W.zret hx hb hr rfl (fun t ht _ => ⟨⟨_, _, rfl, Option.some.inj h, by rw [ht]; exact hP, hD⟩, hS.F ht⟩) hS.2.2 dX6_restore_49 hlocks
      have h := jf c8 h
      by_cases c10 : ((((vu.2 0) + (8 : Int32)) - (1 : Int32)) - (((vu.2 0) + (8 : Int32)) - (1 : Int32)) / (8 : Int32) * (8 : Int32)).toNatClampNeg = 3
      · have h := jt c10 h
        rw [c10]
        refine lv_aload_n hx hb dX6_restore_44 rfl (lv_at hl 1 rfl) ?_
        obtain ⟨z9, hz9, h⟩ := jb h
        refine jgv (w1 := fun u : Mo => wT cyI (fun k => qa (8 + k)) (vRg 3) ++ wT cyI qb u) (wn := wU cyI cyT qa (vu.1, va_up (va_up vu.2 0 ((((vu.2 0) + (8 : Int32)) - (1 : Int32)) - (((vu.2 0) + (8 : Int32)) - (1 : Int32)) / (8 : Int32) * (8 : Int32))) 1 ((vu.2 1) - (1 : Int32))) vRg ++ wT cyI qb z9) (jmN (As := [.ref (qa 8), .ref (qb 0)]) (rest := []) ⟨hx, hb, hml, hown, hts⟩ (c_X7_copyTeam l D cyI cyZ cyT (fun k => qa (8 + k)) qb H.size N (vRg 3) vt z9 hz9) ⟨va_cnB 2 hts gX6_restore_X7_copyTeam_n22 rfl rfl rfl hK.2.2.2.2.2.1 (hts _ kw_X6_restore_5) (by decide +kernel) ⟨Nat.le_of_ble_eq_true rfl, Nat.le_of_ble_eq_true rfl⟩, hts _ kw_X6_restore_4, trivial⟩ hK (hP.sub (ws' := wT cyI (fun k => qa (8 + k)) (vRg 3) ++ wT cyI qb vt) [8, 9, 18, 19] rfl) (hD.sub (ws' := wT cyI (fun k => qa (8 + k)) (vRg 3) ++ wT cyI qb vt) [8, 9, 18, 19] (by decide) rfl) rfl rfl hl.1 (Nat.le_of_ble_eq_true rfl) dX6_restore_45 ⟨Nat.le_of_ble_eq_true rfl, Nat.le_of_ble_eq_true rfl⟩) hP hD hS hA [8, 9, 18, 19] [0, 1, 2, 3, 4, 5, 6, 7, 10, 11, 12, 13, 14, 15, 16, 17] [0, 1, 2, 3, 4, 5, 6, 7, 16, 17, 8, 9, 10, 11, 12, 13, 14, 15, 18, 19] rfl rfl (by decide) (by decide) rfl (by decide) (fun H locs hP hD hS => ?_)
        clear hz9
        refine lv_iconst (v := (1 : Int32)) hx hb dX6_restore_48 (by decide) ?_
        exact W.zret hx hb hr rfl (fun t ht _ => ⟨⟨_, _, rfl, Option.some.inj h, by rw [ht]; exact hP, hD⟩, hS.F ht⟩) hS.2.2 dX6_restore_49 hlocks
      have h := jf c10 h
      by_cases c12 : ((((vu.2 0) + (8 : Int32)) - (1 : Int32)) - (((vu.2 0) + (8 : Int32)) - (1 : Int32)) / (8 : Int32) * (8 : Int32)).toNatClampNeg = 4
      · have h := jt c12 h
        rw [c12]
        refine lv_aload_n hx hb dX6_restore_44 rfl (lv_at hl 1 rfl) ?_
        obtain ⟨z11, hz11, h⟩ := jb h
        refine jgv (w1 := fun u : Mo => wT cyI (fun k => qa (10 + k)) (vRg 4) ++ wT cyI qb u) (wn := wU cyI cyT qa (vu.1, va_up (va_up vu.2 0 ((((vu.2 0) + (8 : Int32)) - (1 : Int32)) - (((vu.2 0) + (8 : Int32)) - (1 : Int32)) / (8 : Int32) * (8 : Int32))) 1 ((vu.2 1) - (1 : Int32))) vRg ++ wT cyI qb z11) (jmN (As := [.ref (qa 10), .ref (qb 0)]) (rest := []) ⟨hx, hb, hml, hown, hts⟩ (c_X7_copyTeam l D cyI cyZ cyT (fun k => qa (10 + k)) qb H.size N (vRg 4) vt z11 hz11) ⟨va_cnB 2 hts gX6_restore_X7_copyTeam_n22 rfl rfl rfl hK.2.2.2.2.2.1 (hts _ kw_X6_restore_5) (by decide +kernel) ⟨Nat.le_of_ble_eq_true rfl, Nat.le_of_ble_eq_true rfl⟩, hts _ kw_X6_restore_4, trivial⟩ hK (hP.sub (ws' := wT cyI (fun k => qa (10 + k)) (vRg 4) ++ wT cyI qb vt) [10, 11, 18, 19] rfl) (hD.sub (ws' := wT cyI (fun k => qa (10 + k)) (vRg 4) ++ wT cyI qb vt) [10, 11, 18, 19] (by decide) rfl) rfl rfl hl.1 (Nat.le_of_ble_eq_true rfl) dX6_restore_45 ⟨Nat.le_of_ble_eq_true rfl, Nat.le_of_ble_eq_true rfl⟩) hP hD hS hA [10, 11, 18, 19] [0, 1, 2, 3, 4, 5, 6, 7, 8, 9, 12, 13, 14, 15, 16, 17] [0, 1, 2, 3, 4, 5, 6, 7, 8, 9, 16, 17, 10, 11, 12, 13, 14, 15, 18, 19] rfl rfl (by decide) (by decide) rfl (by decide) (fun H locs hP hD hS => ?_)
        clear hz11
        refine lv_iconst (v := (1 : Int32)) hx hb dX6_restore_48 (by decide) ?_
        exact W.zret hx hb hr rfl (fun t ht _ => ⟨⟨_, _, rfl, Option.some.inj h, by rw [ht]; exact hP, hD⟩, hS.F ht⟩) hS.2.2 dX6_restore_49 hlocks
      have h := jf c12 h
      by_cases c14 : ((((vu.2 0) + (8 : Int32)) - (1 : Int32)) - (((vu.2 0) + (8 : Int32)) - (1 : Int32)) / (8 : Int32) * (8 : Int32)).toNatClampNeg = 5
      · have h := jt c14 h
        rw [c14]
        refine lv_aload_n hx hb dX6_restore_44 rfl (lv_at hl 1 rfl) ?_
        obtain ⟨z13, hz13, h⟩ := jb h
        refine jgv (w1 := fun u : Mo => wT cyI (fun k => qa (12 + k)) (vRg 5) ++ wT cyI qb u) (wn := wU cyI cyT qa (vu.1, va_up (va_up vu.2 0 ((((vu.2 0) + (8 : Int32)) - (1 : Int32)) - (((vu.2 0) + (8 : Int32)) - (1 : Int32)) / (8 : Int32) * (8 : Int32))) 1 ((vu.2 1) - (1 : Int32))) vRg ++ wT cyI qb z13) (jmN (As := [.ref (qa 12), .ref (qb 0)]) (rest := []) ⟨hx, hb, hml, hown, hts⟩ (c_X7_copyTeam l D cyI cyZ cyT (fun k => qa (12 + k)) qb H.size N (vRg 5) vt z13 hz13) ⟨va_cnB 2 hts gX6_restore_X7_copyTeam_n22 rfl rfl rfl hK.2.2.2.2.2.1 (hts _ kw_X6_restore_5) (by decide +kernel) ⟨Nat.le_of_ble_eq_true rfl, Nat.le_of_ble_eq_true rfl⟩, hts _ kw_X6_restore_4, trivial⟩ hK (hP.sub (ws' := wT cyI (fun k => qa (12 + k)) (vRg 5) ++ wT cyI qb vt) [12, 13, 18, 19] rfl) (hD.sub (ws' := wT cyI (fun k => qa (12 + k)) (vRg 5) ++ wT cyI qb vt) [12, 13, 18, 19] (by decide) rfl) rfl rfl hl.1 (Nat.le_of_ble_eq_true rfl) dX6_restore_45 ⟨Nat.le_of_ble_eq_true rfl, Nat.le_of_ble_eq_true rfl⟩) hP hD hS hA [12, 13, 18, 19] [0, 1, 2, 3, 4, 5, 6, 7, 8, 9, 10, 11, 14, 15, 16, 17] [0, 1, 2, 3, 4, 5, 6, 7, 8, 9, 10, 11, 16, 17, 12, 13, 14, 15, 18, 19] rfl rfl (by decide) (by decide) rfl (by decide) (fun H locs hP hD hS => ?_)
        clear hz13
        refine lv_iconst (v := (1 : Int32)) hx hb dX6_restore_48 (by decide) ?_
        exact W.zret hx hb hr rfl (fun t ht _ => ⟨⟨_, _, rfl, Option.some.inj h, by rw [ht]; exact hP, hD⟩, hS.F ht⟩) hS.2.2 dX6_restore_49 hlocks
      have h := jf c14 h
      by_cases c16 : ((((vu.2 0) + (8 : Int32)) - (1 : Int32)) - (((vu.2 0) + (8 : Int32)) - (1 : Int32)) / (8 : Int32) * (8 : Int32)).toNatClampNeg = 6
      · have h := jt c16 h
        rw [c16]
        refine lv_aload_n hx hb dX6_restore_44 rfl (lv_at hl 1 rfl) ?_
        obtain ⟨z15, hz15, h⟩ := jb h
        refine jgv (w1 := fun u : Mo => wT cyI (fun k => qa (14 + k)) (vRg 6) ++ wT cyI qb u) (wn := wU cyI cyT qa (vu.1, va_up (va_up vu.2 0 ((((vu.2 0) + (8 : Int32)) - (1 : Int32)) - (((vu.2 0) + (8 : Int32)) - (1 : Int32)) / (8 : Int32) * (8 : Int32))) 1 ((vu.2 1) - (1 : Int32))) vRg ++ wT cyI qb z15) (jmN (As := [.ref (qa 14), .ref (qb 0)]) (rest := []) ⟨hx, hb, hml, hown, hts⟩ (c_X7_copyTeam l D cyI cyZ cyT (fun k => qa (14 + k)) qb H.size N (vRg 6) vt z15 hz15) ⟨va_cnB 2 hts gX6_restore_X7_copyTeam_n22 rfl rfl rfl hK.2.2.2.2.2.1 (hts _ kw_X6_restore_5) (by decide +kernel) ⟨Nat.le_of_ble_eq_true rfl, Nat.le_of_ble_eq_true rfl⟩, hts _ kw_X6_restore_4, trivial⟩ hK (hP.sub (ws' := wT cyI (fun k => qa (14 + k)) (vRg 6) ++ wT cyI qb vt) [14, 15, 18, 19] rfl) (hD.sub (ws' := wT cyI (fun k => qa (14 + k)) (vRg 6) ++ wT cyI qb vt) [14, 15, 18, 19] (by decide) rfl) rfl rfl hl.1 (Nat.le_of_ble_eq_true rfl) dX6_restore_45 ⟨Nat.le_of_ble_eq_true rfl, Nat.le_of_ble_eq_true rfl⟩) hP hD hS hA [14, 15, 18, 19] [0, 1, 2, 3, 4, 5, 6, 7, 8, 9, 10, 11, 12, 13, 16, 17] [0, 1, 2, 3, 4, 5, 6, 7, 8, 9, 10, 11, 12, 13, 16, 17, 14, 15, 18, 19] rfl rfl (by decide) (by decide) rfl (by decide) (fun H locs hP hD hS => ?_)
        clear hz15
        refine lv_iconst (v := (1 : Int32)) hx hb dX6_restore_48 (by decide) ?_
        exact W.zret hx hb hr rfl (fun t ht _ => ⟨⟨_, _, rfl, Option.some.inj h, by rw [ht]; exact hP, hD⟩, hS.F ht⟩) hS.2.2 dX6_restore_49 hlocks
      have h := jf c16 h
      by_cases c18 : ((((vu.2 0) + (8 : Int32)) - (1 : Int32)) - (((vu.2 0) + (8 : Int32)) - (1 : Int32)) / (8 : Int32) * (8 : Int32)).toNatClampNeg = 7
      · have h := jt c18 h
        rw [c18]
        refine lv_aload_n hx hb dX6_restore_44 rfl (lv_at hl 1 rfl) ?_
        obtain ⟨z17, hz17, h⟩ := jb h
        refine jgv (w1 := fun u : Mo => wT cyI (fun k => qa (16 + k)) (vRg 7) ++ wT cyI qb u) (wn := wU cyI cyT qa (vu.1, va_up (va_up vu.2 0 ((((vu.2 0) + (8 : Int32)) - (1 : Int32)) - (((vu.2 0) + (8 : Int32)) - (1 : Int32)) / (8 : Int32) * (8 : Int32))) 1 ((vu.2 1) - (1 : Int32))) vRg ++ wT cyI qb z17) (jmN (As := [.ref (qa 16), .ref (qb 0)]) (rest := []) ⟨hx, hb, hml, hown, hts⟩ (c_X7_copyTeam l D cyI cyZ cyT (fun k => qa (16 + k)) qb H.size N (vRg 7) vt z17 hz17) ⟨va_cnB 2 hts gX6_restore_X7_copyTeam_n22 rfl rfl rfl hK.2.2.2.2.2.1 (hts _ kw_X6_restore_5) (by decide +kernel) ⟨Nat.le_of_ble_eq_true rfl, Nat.le_of_ble_eq_true rfl⟩, hts _ kw_X6_restore_4, trivial⟩ hK (hP.sub (ws' := wT cyI (fun k => qa (16 + k)) (vRg 7) ++ wT cyI qb vt) [16, 17, 18, 19] rfl) (hD.sub (ws' := wT cyI (fun k => qa (16 + k)) (vRg 7) ++ wT cyI qb vt) [16, 17, 18, 19] (by decide) rfl) rfl rfl hl.1 (Nat.le_of_ble_eq_true rfl) dX6_restore_45 ⟨Nat.le_of_ble_eq_true rfl, Nat.le_of_ble_eq_true rfl⟩) hP hD hS hA [16, 17, 18, 19] [0, 1, 2, 3, 4, 5, 6, 7, 8, 9, 10, 11, 12, 13, 14, 15] [0, 1, 2, 3, 4, 5, 6, 7, 8, 9, 10, 11, 12, 13, 14, 15, 16, 17, 18, 19] rfl rfl (by decide) (by decide) rfl (by decide) (fun H locs hP hD hS => ?_)
        clear hz17
        refine lv_iconst (v := (1 : Int32)) hx hb dX6_restore_48 (by decide) ?_
        exact W.zret hx hb hr rfl (fun t ht _ => ⟨⟨_, _, rfl, Option.some.inj h, by rw [ht]; exact hP, hD⟩, hS.F ht⟩) hS.2.2 dX6_restore_49 hlocks
      have h := jf c18 h
      cases h
    · have h := jf c1 h
      refine lv_iconst (v := (0 : Int32)) hx hb dX6_restore_7 (by decide) ?_
      exact W.zret hx hb hr rfl (fun t ht _ => ⟨⟨_, _, rfl, Option.some.inj h, by rw [ht]; exact hP, hD⟩, hS.F ht⟩) hS.2.2 dX6_restore_8 hlocks
  exact key s.heap [] hP hD hS

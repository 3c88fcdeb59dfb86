theorem kw_X5_isHere_1 : (.fieldLink RX5 22 "BellTheCat$Text" "end" "I" : Cond) ∈ wsX5_isHere := List.mem_of_getElem? (i := 1) rfl
theorem kw_X5_isHere_2 : (.fieldLink RX5 32 "BellTheCat$Text" "start" "I" : Cond) ∈ wsX5_isHere := List.mem_of_getElem? (i := 2) rfl
theorem in_X5_isHere_X5 : ∀ w ∈ wsX50, w ∈ wsX5_isHere := fun w h => List.mem_cons_of_mem _ (List.mem_append_right _ h)
abbrev rm_X5_isHere : Room := { frames := 4, cells := 0, slots := 0, locals := 85 }
set_option maxHeartbeats 4000000 in
set_option maxRecDepth 100000 in
theorem c_X5_isHere (l : Launch) (D : va_G) (cyI cyZ cyT : ClassId) (adK adV : Nat → Nat) (qa : Nat → Nat) (N : Nat) (i : Nat) (vx : Mo) (o : Int32) (hf : f_X5_isHere N i vx = some o) (hi : i < 9) : Met l yX5_isHere wsX5_isHere rm_X5_isHere (va_Pc [.ref (qa 0), .ref (adK i)] (jBS adK adV D cyI cyZ cyT (wTx cyI qa vx))) (jSi o) 0 0 (fun _ => False) := by
  refine Met.ofW (cc := cX5_isHere) (maxL := 3) (ret := (some .boolean)) (by decide) rfl ?_
  intro p e s m args below meth c s₁ B hml hv
  obtain ⟨rfl, ⟨hP, hK⟩, hZ⟩ := hv
  have hx := B.exec
  have hb := B.bytes
  have hr := B.returns
  have hts := atoms_spec (ws := wsX5_isHere) B.pre
  have hown : s.vm.findClass RX5 = some m.cls := findClass_of_methodNamed B.named
  have hlocks := B.notSynchronized
  have hl := lv_entry ([.ref (qa 0), .ref (adK i)]) (n := 3) (Nat.le_of_ble_eq_true rfl)
  rw [lg_entry_eq]
  generalize (lg_sl ([.ref (qa 0), .ref (adK i)]) ++ List.replicate (3 - (lg_sl ([.ref (qa 0), .ref (adK i)])).length) Slot.unset).toArray = ls at hl ⊢
  have hl : lv_has ls 3 [(0, .ref (qa 0)), (1, .ref (adK i))] := hl
  clear B
  generalize ([.ref (qa 0), .ref (adK i)] : List Value).toArray = args at hts ⊢
  have key : ∀ (H : Heap), va_P D vwCl (wTx cyI qa vx) H → H = s.heap → W p l e rm_X5_isHere s m args below meth c H [] 0 0 (MQ below (jSi o) args s 0 0 (fun _ => False)) (F0 m 0 ls []) := by
    intro H hP hH
    have hS : va_S (fun _ => False) s.heap H [] := by rw [hH]; exact va_S.rf
    have h := hf
    unfold f_X5_isHere at h
    refine lv_aload_n hx hb dX5_isHere_0 rfl (lv_at hl 0 rfl) ?_
    refine va_get (D := D) (ci := 5) (v := .int (vx.2 3)) (C := RX5) (T := TX5) (N := 6) hx hb hts in_X5_isHere_X5 hown hK.1 hP 0 rfl rfl 5 (by decide) (hts _ kw_X5_isHere_1) (fun _ h9 => h9) rfl dX5_isHere_1 ?_
    refine lv_aload_n hx hb dX5_isHere_4 rfl (lv_at hl 0 rfl) ?_
    refine va_get (D := D) (ci := 5) (v := .int (vx.2 2)) (C := RX5) (T := TX5) (N := 6) hx hb hts in_X5_isHere_X5 hown hK.1 hP 0 rfl rfl 4 (by decide) (hts _ kw_X5_isHere_2) (fun _ h9 => h9) rfl dX5_isHere_5 ?_
    refine lv_isub hx hb dX5_isHere_8 ?_
    refine lv_aload_n hx hb dX5_isHere_9 rfl (lv_at hl 1 rfl) ?_
    refine jki (jrT (As := []) (rest := [.int ((vx.2 3) - (vx.2 2))]) hi ⟨hx, hb, hml, hown, hts⟩ (c_length l adK adV i hi) (cwV 0 hts gX5_isHere_J0_length_8abf5 rfl rfl rfl (by decide +kernel) ⟨Nat.le_of_ble_eq_true rfl, Nat.le_of_ble_eq_true rfl⟩) (hZ.none hS) rfl rfl hl.1 (Nat.le_of_ble_eq_true rfl) dX5_isHere_10 ⟨Nat.le_of_ble_eq_true rfl, Nat.le_of_ble_eq_true rfl⟩) ?_
    refine lv_icmp_eq (tgt := 18) hx hb dX5_isHere_13 (by decide) (fun c1 => ?_) (fun c1 => ?_)
    · have h := jt c1 h
      refine lv_iconst (v := (0 : Int32)) hx hb dX5_isHere_18 (by decide) ?_
      refine lv_istore_n (lv' := [(2, .int (0 : Int32)), (0, .ref (qa 0)), (1, .ref (adK i))]) hx hb dX5_isHere_19 rfl hl (by decide) rfl (fun ls hl => ?_)
      obtain ⟨r2, hz2, h2_⟩ := jb h
      have hex2 : ∀ e2 : Unit, r2 = .inl e2 → ∀ (ls : Array Slot), lv_has ls 3 [] → W p l e rm_X5_isHere s m args below meth c H [] 0 0 (MQ below (jSi o) args s 0 0 (fun _ => False)) (F0 m 54 ls []) := by
        intro e2 he ls hl
        have h := jsl h2_ he
        clear hz2
        refine lv_iconst (v := (1 : Int32)) hx hb dX5_isHere_54 (by decide) ?_
        exact W.zret hx hb hr rfl (fun t ht _ => ⟨_, rfl, Option.some.inj h, ht.trans hH⟩) (fun q h => by cases h) dX5_isHere_55 hlocks
      have hlp2 : ∀ (nn : Nat) (z2 : Int32), jw (X5_isHere_s20 i vx) nn z2 = some r2 → ∀ (ls : Array Slot), lv_has ls 3 [(0, .ref (qa 0)), (1, .ref (adK i)), (2, .int z2)] → W p l e rm_X5_isHere s m args below meth c H [] 0 0 (MQ below (jSi o) args s 0 0 (fun _ => False)) (F0 m 20 ls []) := by
        refine jw_P (r := r2) (P := fun z2 : Int32 => ∀ (ls : Array Slot), lv_has ls 3 [(0, .ref (qa 0)), (1, .ref (adK i)), (2, .int z2)] → W p l e rm_X5_isHere s m args below meth c H [] 0 0 (MQ below (jSi o) args s 0 0 (fun _ => False)) (F0 m 20 ls [])) ?_
        intro z2 x2 h hin hout ls hl
        unfold X5_isHere_s20 at h
        refine lv_iload_n hx hb dX5_isHere_20 rfl (lv_at hl 2 rfl) ?_
        refine lv_aload_n hx hb dX5_isHere_21 rfl (lv_at hl 1 rfl) ?_
        refine jki (jrT (As := []) (rest := [.int z2]) hi ⟨hx, hb, hml, hown, hts⟩ (c_length l adK adV i hi) (cwV 0 hts gX5_isHere_J0_length_8abf5 rfl rfl rfl (by decide +kernel) ⟨Nat.le_of_ble_eq_true rfl, Nat.le_of_ble_eq_true rfl⟩) (hZ.none hS) rfl rfl hl.1 (Nat.le_of_ble_eq_true rfl) dX5_isHere_22 ⟨Nat.le_of_ble_eq_true rfl, Nat.le_of_ble_eq_true rfl⟩) ?_
        refine lv_icmp_ge (tgt := 54) hx hb dX5_isHere_25 (by decide) (fun c3 => ?_) (fun c3 => ?_)
        · have h := jt c3 h
          exact hex2 _ (hout _ (Option.some.inj h).symm).symm ls (lv_sub hl [] rfl)
        · have h := jf c3 h
          refine lv_aload_n hx hb dX5_isHere_28 rfl (lv_at hl 0 rfl) ?_
          refine lv_aload_n hx hb dX5_isHere_29 rfl (lv_at hl 0 rfl) ?_
          refine va_get (D := D) (ci := 5) (v := .int (vx.2 2)) (C := RX5) (T := TX5) (N := 6) hx hb hts in_X5_isHere_X5 hown hK.1 hP 0 rfl rfl 4 (by decide) (hts _ kw_X5_isHere_2) (fun _ h9 => h9) rfl dX5_isHere_30 ?_
          refine lv_iload_n hx hb dX5_isHere_33 rfl (lv_at hl 2 rfl) ?_
          refine lv_iadd hx hb dX5_isHere_34 ?_
          obtain ⟨z4, hz4, h⟩ := jb h
          refine jki (jrV (As := [.int ((vx.2 2) + z2)]) (rest := []) ⟨hx, hb, hml, hown, hts⟩ (c_X5_letterAt l D cyI cyZ cyT qa  ((vx.2 2) + z2) vx z4 hz4) (cwV 1 hts gX5_isHere_X5_letterAt rfl rfl rfl (by decide +kernel) ⟨Nat.le_of_ble_eq_true rfl, Nat.le_of_ble_eq_true rfl⟩) hK hP rfl 5 0 rfl rfl rfl hl.1 (Nat.le_of_ble_eq_true rfl) dX5_isHere_35 ⟨Nat.le_of_ble_eq_true rfl, Nat.le_of_ble_eq_true rfl⟩) ?_
          clear hz4
          refine lv_aload_n hx hb dX5_isHere_38 rfl (lv_at hl 1 rfl) ?_
          refine lv_iload_n hx hb dX5_isHere_39 rfl (lv_at hl 2 rfl) ?_
          obtain ⟨g5, h⟩ := jn h
          refine jki (jrT (As := [.int z2]) (rest := [.int z4]) hi ⟨hx, hb, hml, hown, hts⟩ (c_charAt l adK adV i hi z2 (fun c => g5 (Or.inl c)) (Int32.not_le.mp (fun c => g5 (Or.inr c)))) (cwV 1 hts gX5_isHere_J0_charAt_5068e rfl rfl rfl (by decide +kernel) ⟨Nat.le_of_ble_eq_true rfl, Nat.le_of_ble_eq_true rfl⟩) (hZ.none hS) rfl rfl hl.1 (Nat.le_of_ble_eq_true rfl) dX5_isHere_40 ⟨Nat.le_of_ble_eq_true rfl, Nat.le_of_ble_eq_true rfl⟩) ?_
          refine lv_icmp_eq (tgt := 48) hx hb dX5_isHere_43 (by decide) (fun c6 => ?_) (fun c6 => ?_)
          · have h := jt c6 h
            refine lv_iinc (v := z2 + (1 : Int32)) (lv' := [(2, .int (z2 + (1 : Int32))), (0, .ref (qa 0)), (1, .ref (adK i))]) hx hb dX5_isHere_48 hl (k := 2) rfl rfl (by decide) rfl (fun ls hl => ?_)
            refine lv_goto (tgt := 20) hx hb dX5_isHere_51 (by decide) ?_
            exact hin _ (Option.some.inj h).symm ls (lv_sub hl [1, 2, 0] rfl)
          · have h := jf c6 h
            refine lv_iconst (v := (0 : Int32)) hx hb dX5_isHere_46 (by decide) ?_
            have h := jsr h2_ (hout _ (Option.some.inj h).symm).symm
            exact W.zret hx hb hr rfl (fun t ht _ => ⟨_, rfl, Option.some.inj h, ht.trans hH⟩) (fun q h => by cases h) dX5_isHere_47 hlocks
      exact hlp2 _ _ hz2 ls (lv_sub hl [1, 2, 0] rfl)
    · have h := jf c1 h
      refine lv_iconst (v := (0 : Int32)) hx hb dX5_isHere_16 (by decide) ?_
      exact W.zret hx hb hr rfl (fun t ht _ => ⟨_, rfl, Option.some.inj h, ht.trans hH⟩) (fun q h => by cases h) dX5_isHere_17 hlocks
  exact key s.heap hP rfl
theorem kw_X5_wordHere_1 : (.fieldLink RX5 32 "BellTheCat$Text" "start" "I" : Cond) ∈ wsX5_wordHere := List.mem_of_getElem? (i := 1) rfl
theorem in_X5_wordHere_X5 : ∀ w ∈ wsX50, w ∈ wsX5_wordHere := fun w h => List.mem_cons_of_mem _ (List.mem_append_right _ h)
abbrev rm_X5_wordHere : Room := { frames := 5, cells := 0, slots := 0, locals := 107 }
set_option maxHeartbeats 4000000 in
set_option maxRecDepth 100000 in
theorem c_X5_wordHere (l : Launch) (D : va_G) (cyI cyZ cyT : ClassId) (adK adV : Nat → Nat) (qa : Nat → Nat) (N : Nat) (vx : Mo) (o : Int32) (hf : f_X5_wordHere N vx = some o) : Met l yX5_wordHere wsX5_wordHere rm_X5_wordHere (va_Pc [.ref (qa 0)] (jBS adK adV D cyI cyZ cyT (wTx cyI qa vx))) (jSi o) 0 0 (fun _ => False) := by
  refine Met.ofW (cc := cX5_wordHere) (maxL := 1) (ret := (some .int)) (by decide) rfl ?_
  intro p e s m args below meth c s₁ B hml hv
  obtain ⟨rfl, ⟨hP, hK⟩, hZ⟩ := hv
  have hx := B.exec
  have hb := B.bytes
  have hr := B.returns
  have hts := atoms_spec (ws := wsX5_wordHere) B.pre
  have hown : s.vm.findClass RX5 = some m.cls := findClass_of_methodNamed B.named
  have hlocks := B.notSynchronized
  have hl := lv_entry ([.ref (qa 0)]) (n := 1) (Nat.le_of_ble_eq_true rfl)
  rw [lg_entry_eq]
  generalize (lg_sl ([.ref (qa 0)]) ++ List.replicate (1 - (lg_sl ([.ref (qa 0)])).length) Slot.unset).toArray = ls at hl ⊢
  have hl : lv_has ls 1 [(0, .ref (qa 0))] := hl
  clear B
  generalize ([.ref (qa 0)] : List Value).toArray = args at hts ⊢
  have key : ∀ (H : Heap), va_P D vwCl (wTx cyI qa vx) H → H = s.heap → W p l e rm_X5_wordHere s m args below meth c H [] 0 0 (MQ below (jSi o) args s 0 0 (fun _ => False)) (F0 m 0 ls []) := by
    intro H hP hH
    have hS : va_S (fun _ => False) s.heap H [] := by rw [hH]; exact va_S.rf
    have h := hf
    unfold f_X5_wordHere at h
    refine lv_aload_n hx hb dX5_wordHere_0 rfl (lv_at hl 0 rfl) ?_
    refine lv_aload_n hx hb dX5_wordHere_1 rfl (lv_at hl 0 rfl) ?_
    refine va_get (D := D) (ci := 5) (v := .int (vx.2 2)) (C := RX5) (T := TX5) (N := 6) hx hb hts in_X5_wordHere_X5 hown hK.1 hP 0 rfl rfl 4 (by decide) (hts _ kw_X5_wordHere_1) (fun _ h9 => h9) rfl dX5_wordHere_2 ?_
    obtain ⟨z1, hz1, h⟩ := jb h
    refine jki (jrV (As := [.int (vx.2 2)]) (rest := []) ⟨hx, hb, hml, hown, hts⟩ (c_X5_letterAt l D cyI cyZ cyT qa  (vx.2 2) vx z1 hz1) (cwV 1 hts gX5_wordHere_X5_letterAt rfl rfl rfl (by decide +kernel) ⟨Nat.le_of_ble_eq_true rfl, Nat.le_of_ble_eq_true rfl⟩) hK hP rfl 5 0 rfl rfl rfl hl.1 (Nat.le_of_ble_eq_true rfl) dX5_wordHere_5 ⟨Nat.le_of_ble_eq_true rfl, Nat.le_of_ble_eq_true rfl⟩) ?_
    clear hz1
    by_cases c2 : z1 = (98 : Int32)
    · have h := jt c2 h
      refine lv_tableIn (off := 133) (tgt := 141) hx hb dX5_wordHere_8 (by rw [c2]; decide) (by rw [c2]; decide) (by rw [c2]; rfl) (by decide) ?_
      refine lv_aload_n hx hb dX5_wordHere_141 rfl (lv_at hl 0 rfl) ?_
      refine va_ldcS hx hb hown (hZ.2.1 3 (by decide)) dX5_wordHere_142 ?_
      obtain ⟨z3, hz3, h⟩ := jb h
      refine jki (jrVs (As := [.ref (adK 3)]) (rest := []) ⟨hx, hb, hml, hown, hts⟩ (c_X5_isHere l D cyI cyZ cyT adK adV qa  N 3 vx z3 hz3 (by decide)) (cwV 1 hts gX5_wordHere_X5_isHere rfl rfl rfl (by decide +kernel) ⟨Nat.le_of_ble_eq_true rfl, Nat.le_of_ble_eq_true rfl⟩) hK hP (hZ.none hS) rfl 5 0 rfl rfl rfl hl.1 (Nat.le_of_ble_eq_true rfl) dX5_wordHere_144 ⟨Nat.le_of_ble_eq_true rfl, Nat.le_of_ble_eq_true rfl⟩) ?_
      clear hz3
      refine lv_if_eq (tgt := 154) hx hb dX5_wordHere_147 (by decide) (fun c4 => ?_) (fun c4 => ?_)
      · have h := jt c4 h
        refine lv_iconst (v := (-1 : Int32)) hx hb dX5_wordHere_154 (by decide) ?_
        exact W.iret hx hb hr (fun t ht _ => ⟨_, rfl, Option.some.inj h, ht.trans hH⟩) (fun q h => by cases h) dX5_wordHere_155 hlocks
      · have h := jf c4 h
        refine lv_iconst (v := (3 : Int32)) hx hb dX5_wordHere_150 (by decide) ?_
        refine lv_goto (tgt := 155) hx hb dX5_wordHere_151 (by decide) ?_
        exact W.iret hx hb hr (fun t ht _ => ⟨_, rfl, Option.some.inj h, ht.trans hH⟩) (fun q h => by cases h) dX5_wordHere_155 hlocks
    have h := jf c2 h
    by_cases c5 : z1 = (99 : Int32)
    · have h := jt c5 h
      refine lv_tableIn (off := 118) (tgt := 126) hx hb dX5_wordHere_8 (by rw [c5]; decide) (by rw [c5]; decide) (by rw [c5]; rfl) (by decide) ?_
      refine lv_aload_n hx hb dX5_wordHere_126 rfl (lv_at hl 0 rfl) ?_
      refine va_ldcS hx hb hown (hZ.2.1 2 (by decide)) dX5_wordHere_127 ?_
      obtain ⟨z6, hz6, h⟩ := jb h
      refine jki (jrVs (As := [.ref (adK 2)]) (rest := []) ⟨hx, hb, hml, hown, hts⟩ (c_X5_isHere l D cyI cyZ cyT adK adV qa  N 2 vx z6 hz6 (by decide)) (cwV 1 hts gX5_wordHere_X5_isHere rfl rfl rfl (by decide +kernel) ⟨Nat.le_of_ble_eq_true rfl, Nat.le_of_ble_eq_true rfl⟩) hK hP (hZ.none hS) rfl 5 0 rfl rfl rfl hl.1 (Nat.le_of_ble_eq_true rfl) dX5_wordHere_129 ⟨Nat.le_of_ble_eq_true rfl, Nat.le_of_ble_eq_true rfl⟩) ?_
      clear hz6
      refine lv_if_eq (tgt := 139) hx hb dX5_wordHere_132 (by decide) (fun c7 => ?_) (fun c7 => ?_)
      · have h := jt c7 h
        refine lv_iconst (v := (-1 : Int32)) hx hb dX5_wordHere_139 (by decide) ?_
        exact W.iret hx hb hr (fun t ht _ => ⟨_, rfl, Option.some.inj h, ht.trans hH⟩) (fun q h => by cases h) dX5_wordHere_140 hlocks
      · have h := jf c7 h
        refine lv_iconst (v := (2 : Int32)) hx hb dX5_wordHere_135 (by decide) ?_
        refine lv_goto (tgt := 140) hx hb dX5_wordHere_136 (by decide) ?_
        exact W.iret hx hb hr (fun t ht _ => ⟨_, rfl, Option.some.inj h, ht.trans hH⟩) (fun q h => by cases h) dX5_wordHere_140 hlocks
    have h := jf c5 h
    by_cases c8 : z1 = (100 : Int32)
    · have h := jt c8 h
      refine lv_tableIn (off := 103) (tgt := 111) hx hb dX5_wordHere_8 (by rw [c8]; decide) (by rw [c8]; decide) (by rw [c8]; rfl) (by decide) ?_
      refine lv_aload_n hx hb dX5_wordHere_111 rfl (lv_at hl 0 rfl) ?_
      refine va_ldcS hx hb hown (hZ.2.1 1 (by decide)) dX5_wordHere_112 ?_
      obtain ⟨z9, hz9, h⟩ := jb h
      refine jki (jrVs (As := [.ref (adK 1)]) (rest := []) ⟨hx, hb, hml, hown, hts⟩ (c_X5_isHere l D cyI cyZ cyT adK adV qa  N 1 vx z9 hz9 (by decide)) (cwV 1 hts gX5_wordHere_X5_isHere rfl rfl rfl (by decide +kernel) ⟨Nat.le_of_ble_eq_true rfl, Nat.le_of_ble_eq_true rfl⟩) hK hP (hZ.none hS) rfl 5 0 rfl rfl rfl hl.1 (Nat.le_of_ble_eq_true rfl) dX5_wordHere_114 ⟨Nat.le_of_ble_eq_true rfl, Nat.le_of_ble_eq_true rfl⟩) ?_
      clear hz9
      refine lv_if_eq (tgt := 124) hx hb dX5_wordHere_117 (by decide) (fun c10 => ?_) (fun c10 => ?_)
      · have h := jt c10 h
        refine lv_iconst (v := (-1 : Int32)) hx hb dX5_wordHere_124 (by decide) ?_
        exact W.iret hx hb hr (fun t ht _ => ⟨_, rfl, Option.some.inj h, ht.trans hH⟩) (fun q h => by cases h) dX5_wordHere_125 hlocks
      · have h := jf c10 h
        refine lv_iconst (v := (1 : Int32)) hx hb dX5_wordHere_120 (by decide) ?_
        refine lv_goto (tgt := 125) hx hb dX5_wordHere_121 (by decide) ?_
        exact W.iret hx hb hr (fun t ht _ => ⟨_, rfl, Option.some.inj h, ht.trans hH⟩) (fun q h => by cases h) dX5_wordHere_125 hlocks
    have h := jf c8 h
    by_cases c11 : z1 = (101 : Int32)
    · have h := jt c11 h
      refine lv_tableIn (off := 226) (tgt := 234) hx hb dX5_wordHere_8 (by rw [c11]; decide) (by rw [c11]; decide) (by rw [c11]; rfl) (by decide) ?_
      refine lv_iconst (v := (-1 : Int32)) hx hb dX5_wordHere_234 (by decide) ?_
      exact W.iret hx hb hr (fun t ht _ => ⟨_, rfl, Option.some.inj h, ht.trans hH⟩) (fun q h => by cases h) dX5_wordHere_235 hlocks
    have h := jf c11 h
    by_cases c12 : z1 = (102 : Int32)
    · have h := jt c12 h
      refine lv_tableIn (off := 226) (tgt := 234) hx hb dX5_wordHere_8 (by rw [c12]; decide) (by rw [c12]; decide) (by rw [c12]; rfl) (by decide) ?_
      refine lv_iconst (v := (-1 : Int32)) hx hb dX5_wordHere_234 (by decide) ?_
      exact W.iret hx hb hr (fun t ht _ => ⟨_, rfl, Option.some.inj h, ht.trans hH⟩) (fun q h => by cases h) dX5_wordHere_235 hlocks
    have h := jf c12 h
    by_cases c13 : z1 = (103 : Int32)
    · have h := jt c13 h
      refine lv_tableIn (off := 178) (tgt := 186) hx hb dX5_wordHere_8 (by rw [c13]; decide) (by rw [c13]; decide) (by rw [c13]; rfl) (by decide) ?_
      refine lv_aload_n hx hb dX5_wordHere_186 rfl (lv_at hl 0 rfl) ?_
      refine va_ldcS hx hb hown (hZ.2.1 6 (by decide)) dX5_wordHere_187 ?_
      obtain ⟨z14, hz14, h⟩ := jb h
      refine jki (jrVs (As := [.ref (adK 6)]) (rest := []) ⟨hx, hb, hml, hown, hts⟩ (c_X5_isHere l D cyI cyZ cyT adK adV qa  N 6 vx z14 hz14 (by decide)) (cwV 1 hts gX5_wordHere_X5_isHere rfl rfl rfl (by decide +kernel) ⟨Nat.le_of_ble_eq_true rfl, Nat.le_of_ble_eq_true rfl⟩) hK hP (hZ.none hS) rfl 5 0 rfl rfl rfl hl.1 (Nat.le_of_ble_eq_true rfl) dX5_wordHere_189 ⟨Nat.le_of_ble_eq_true rfl, Nat.le_of_ble_eq_true rfl⟩) ?_
      clear hz14
      refine lv_if_eq (tgt := 200) hx hb dX5_wordHere_192 (by decide) (fun c15 => ?_) (fun c15 => ?_)
      · have h := jt c15 h
        refine lv_iconst (v := (-1 : Int32)) hx hb dX5_wordHere_200 (by decide) ?_
        exact W.iret hx hb hr (fun t ht _ => ⟨_, rfl, Option.some.inj h, ht.trans hH⟩) (fun q h => by cases h) dX5_wordHere_201 hlocks
      · have h := jf c15 h
        refine lv_bipush (v := (6 : Int32)) hx hb dX5_wordHere_195 (by decide) ?_
        refine lv_goto (tgt := 201) hx hb dX5_wordHere_197 (by decide) ?_
        exact W.iret hx hb hr (fun t ht _ => ⟨_, rfl, Option.some.inj h, ht.trans hH⟩) (fun q h => by cases h) dX5_wordHere_201 hlocks
    have h := jf c13 h
    by_cases c16 : z1 = (104 : Int32)
    · have h := jt c16 h
      refine lv_tableIn (off := 194) (tgt := 202) hx hb dX5_wordHere_8 (by rw [c16]; decide) (by rw [c16]; decide) (by rw [c16]; rfl) (by decide) ?_
      refine lv_aload_n hx hb dX5_wordHere_202 rfl (lv_at hl 0 rfl) ?_
      refine va_ldcS hx hb hown (hZ.2.1 7 (by decide)) dX5_wordHere_203 ?_
      obtain ⟨z17, hz17, h⟩ := jb h
      refine jki (jrVs (As := [.ref (adK 7)]) (rest := []) ⟨hx, hb, hml, hown, hts⟩ (c_X5_isHere l D cyI cyZ cyT adK adV qa  N 7 vx z17 hz17 (by decide)) (cwV 1 hts gX5_wordHere_X5_isHere rfl rfl rfl (by decide +kernel) ⟨Nat.le_of_ble_eq_true rfl, Nat.le_of_ble_eq_true rfl⟩) hK hP (hZ.none hS) rfl 5 0 rfl rfl rfl hl.1 (Nat.le_of_ble_eq_true rfl) dX5_wordHere_205 ⟨Nat.le_of_ble_eq_true rfl, Nat.le_of_ble_eq_true rfl⟩) ?_
      clear hz17
      refine lv_if_eq (tgt := 216) hx hb dX5_wordHere_208 (by decide) (fun c18 => ?_) (fun c18 => ?_)
      · have h := jt c18 h
        refine lv_iconst (v := (-1 : Int32)) hx hb dX5_wordHere_216 (by decide) ?_
        exact W.iret hx hb hr (fun t ht _ => ⟨_, rfl, Option.some.inj h, ht.trans hH⟩) (fun q h => by cases h) dX5_wordHere_217 hlocks
      · have h := jf c18 h
        refine lv_bipush (v := (7 : Int32)) hx hb dX5_wordHere_211 (by decide) ?_
        refine lv_goto (tgt := 217) hx hb dX5_wordHere_213 (by decide) ?_
        exact W.iret hx hb hr (fun t ht _ => ⟨_, rfl, Option.some.inj h, ht.trans hH⟩) (fun q h => by cases h) dX5_wordHere_217 hlocks
    have h := jf c16 h
    by_cases c19 : z1 = (105 : Int32)
    · have h := jt c19 h
      refine lv_tableIn (off := 226) (tgt := 234) hx hb dX5_wordHere_8 (by rw [c19]; decide) (by rw [c19]; decide) (by rw [c19]; rfl) (by decide) ?_
      refine lv_iconst (v := (-1 : Int32)) hx hb dX5_wordHere_234 (by decide) ?_
      exact W.iret hx hb hr (fun t ht _ => ⟨_, rfl, Option.some.inj h, ht.trans hH⟩) (fun q h => by cases h) dX5_wordHere_235 hlocks
    have h := jf c19 h
    by_cases c20 : z1 = (106 : Int32)
    · have h := jt c20 h
      refine lv_tableIn (off := 226) (tgt := 234) hx hb dX5_wordHere_8 (by rw [c20]; decide) (by rw [c20]; decide) (by rw [c20]; rfl) (by decide) ?_
      refine lv_iconst (v := (-1 : Int32)) hx hb dX5_wordHere_234 (by decide) ?_
      exact W.iret hx hb hr (fun t ht _ => ⟨_, rfl, Option.some.inj h, ht.trans hH⟩) (fun q h => by cases h) dX5_wordHere_235 hlocks
    have h := jf c20 h
    by_cases c21 : z1 = (107 : Int32)
    · have h := jt c21 h
      refine lv_tableIn (off := 226) (tgt := 234) hx hb dX5_wordHere_8 (by rw [c21]; decide) (by rw [c21]; decide) (by rw [c21]; rfl) (by decide) ?_
      refine lv_iconst (v := (-1 : Int32)) hx hb dX5_wordHere_234 (by decide) ?_
      exact W.iret hx hb hr (fun t ht _ => ⟨_, rfl, Option.some.inj h, ht.trans hH⟩) (fun q h => by cases h) dX5_wordHere_235 hlocks
    have h := jf c21 h
    by_cases c22 : z1 = (108 : Int32)
    · have h := jt c22 h
      refine lv_tableIn (off := 226) (tgt := 234) hx hb dX5_wordHere_8 (by rw [c22]; decide) (by rw [c22]; decide) (by rw [c22]; rfl) (by decide) ?_
      refine lv_iconst (v := (-1 : Int32)) hx hb dX5_wordHere_234 (by decide) ?_
      exact W.iret hx hb hr (fun t ht _ => ⟨_, rfl, Option.some.inj h, ht.trans hH⟩) (fun q h => by cases h) dX5_wordHere_235 hlocks
    have h := jf c22 h
    by_cases c23 : z1 = (109 : Int32)
    · have h := jt c23 h
      refine lv_tableIn (off := 226) (tgt := 234) hx hb dX5_wordHere_8 (by rw [c23]; decide) (by rw [c23]; decide) (by rw [c23]; rfl) (by decide) ?_
      refine lv_iconst (v := (-1 : Int32)) hx hb dX5_wordHere_234 (by decide) ?_
      exact W.iret hx hb hr (fun t ht _ => ⟨_, rfl, Option.some.inj h, ht.trans hH⟩) (fun q h => by cases h) dX5_wordHere_235 hlocks
    have h := jf c23 h
    by_cases c24 : z1 = (110 : Int32)
    · have h := jt c24 h
      refine lv_tableIn (off := 226) (tgt := 234) hx hb dX5_wordHere_8 (by rw [c24]; decide) (by rw [c24]; decide) (by rw [c24]; rfl) (by decide) ?_
      refine lv_iconst (v := (-1 : Int32)) hx hb dX5_wordHere_234 (by decide) ?_
      exact W.iret hx hb hr (fun t ht _ => ⟨_, rfl, Option.some.inj h, ht.trans hH⟩) (fun q h => by cases h) dX5_wordHere_235 hlocks
    have h := jf c24 h
    by_cases c25 : z1 = (111 : Int32)
    · have h := jt c25 h
      refine lv_tableIn (off := 226) (tgt := 234) hx hb dX5_wordHere_8 (by rw [c25]; decide) (by rw [c25]; decide) (by rw [c25]; rfl) (by decide) ?_
      refine lv_iconst (v := (-1 : Int32)) hx hb dX5_wordHere_234 (by decide) ?_
      exact W.iret hx hb hr (fun t ht _ => ⟨_, rfl, Option.some.inj h, ht.trans hH⟩) (fun q h => by cases h) dX5_wordHere_235 hlocks
    have h := jf c25 h
    by_cases c26 : z1 = (112 : Int32)
    · have h := jt c26 h
      refine lv_tableIn (off := 88) (tgt := 96) hx hb dX5_wordHere_8 (by rw [c26]; decide) (by rw [c26]; decide) (by rw [c26]; rfl) (by decide) ?_
      refine lv_aload_n hx hb dX5_wordHere_96 rfl (lv_at hl 0 rfl) ?_
      refine va_ldcS hx hb hown (hZ.2.1 0 (by decide)) dX5_wordHere_97 ?_
      obtain ⟨z27, hz27, h⟩ := jb h
      refine jki (jrVs (As := [.ref (adK 0)]) (rest := []) ⟨hx, hb, hml, hown, hts⟩ (c_X5_isHere l D cyI cyZ cyT adK adV qa  N 0 vx z27 hz27 (by decide)) (cwV 1 hts gX5_wordHere_X5_isHere rfl rfl rfl (by decide +kernel) ⟨Nat.le_of_ble_eq_true rfl, Nat.le_of_ble_eq_true rfl⟩) hK hP (hZ.none hS) rfl 5 0 rfl rfl rfl hl.1 (Nat.le_of_ble_eq_true rfl) dX5_wordHere_99 ⟨Nat.le_of_ble_eq_true rfl, Nat.le_of_ble_eq_true rfl⟩) ?_
      clear hz27
      refine lv_if_eq (tgt := 109) hx hb dX5_wordHere_102 (by decide) (fun c28 => ?_) (fun c28 => ?_)
      · have h := jt c28 h
        refine lv_iconst (v := (-1 : Int32)) hx hb dX5_wordHere_109 (by decide) ?_
        exact W.iret hx hb hr (fun t ht _ => ⟨_, rfl, Option.some.inj h, ht.trans hH⟩) (fun q h => by cases h) dX5_wordHere_110 hlocks
      · have h := jf c28 h
        refine lv_iconst (v := (0 : Int32)) hx hb dX5_wordHere_105 (by decide) ?_
        refine lv_goto (tgt := 110) hx hb dX5_wordHere_106 (by decide) ?_
        exact W.iret hx hb hr (fun t ht _ => ⟨_, rfl, Option.some.inj h, ht.trans hH⟩) (fun q h => by cases h) dX5_wordHere_110 hlocks
    have h := jf c26 h
    by_cases c29 : z1 = (113 : Int32)
    · have h := jt c29 h
      refine lv_tableIn (off := 210) (tgt := 218) hx hb dX5_wordHere_8 (by rw [c29]; decide) (by rw [c29]; decide) (by rw [c29]; rfl) (by decide) ?_
      refine lv_aload_n hx hb dX5_wordHere_218 rfl (lv_at hl 0 rfl) ?_
      refine va_ldcS hx hb hown (hZ.2.1 8 (by decide)) dX5_wordHere_219 ?_
      obtain ⟨z30, hz30, h⟩ := jb h
      refine jki (jrVs (As := [.ref (adK 8)]) (rest := []) ⟨hx, hb, hml, hown, hts⟩ (c_X5_isHere l D cyI cyZ cyT adK adV qa  N 8 vx z30 hz30 (by decide)) (cwV 1 hts gX5_wordHere_X5_isHere rfl rfl rfl (by decide +kernel) ⟨Nat.le_of_ble_eq_true rfl, Nat.le_of_ble_eq_true rfl⟩) hK hP (hZ.none hS) rfl 5 0 rfl rfl rfl hl.1 (Nat.le_of_ble_eq_true rfl) dX5_wordHere_221 ⟨Nat.le_of_ble_eq_true rfl, Nat.le_of_ble_eq_true rfl⟩) ?_
      clear hz30
      refine lv_if_eq (tgt := 232) hx hb dX5_wordHere_224 (by decide) (fun c31 => ?_) (fun c31 => ?_)
      · have h := jt c31 h
        refine lv_iconst (v := (-1 : Int32)) hx hb dX5_wordHere_232 (by decide) ?_
        exact W.iret hx hb hr (fun t ht _ => ⟨_, rfl, Option.some.inj h, ht.trans hH⟩) (fun q h => by cases h) dX5_wordHere_233 hlocks
      · have h := jf c31 h
        refine lv_bipush (v := (8 : Int32)) hx hb dX5_wordHere_227 (by decide) ?_
        refine lv_goto (tgt := 233) hx hb dX5_wordHere_229 (by decide) ?_
        exact W.iret hx hb hr (fun t ht _ => ⟨_, rfl, Option.some.inj h, ht.trans hH⟩) (fun q h => by cases h) dX5_wordHere_233 hlocks
    have h := jf c29 h
    by_cases c32 : z1 = (114 : Int32)
    · have h := jt c32 h
      refine lv_tableIn (off := 163) (tgt := 171) hx hb dX5_wordHere_8 (by rw [c32]; decide) (by rw [c32]; decide) (by rw [c32]; rfl) (by decide) ?_
      refine lv_aload_n hx hb dX5_wordHere_171 rfl (lv_at hl 0 rfl) ?_
      refine va_ldcS hx hb hown (hZ.2.1 5 (by decide)) dX5_wordHere_172 ?_
      obtain ⟨z33, hz33, h⟩ := jb h
      refine jki (jrVs (As := [.ref (adK 5)]) (rest := []) ⟨hx, hb, hml, hown, hts⟩ (c_X5_isHere l D cyI cyZ cyT adK adV qa  N 5 vx z33 hz33 (by decide)) (cwV 1 hts gX5_wordHere_X5_isHere rfl rfl rfl (by decide +kernel) ⟨Nat.le_of_ble_eq_true rfl, Nat.le_of_ble_eq_true rfl⟩) hK hP (hZ.none hS) rfl 5 0 rfl rfl rfl hl.1 (Nat.le_of_ble_eq_true rfl) dX5_wordHere_174 ⟨Nat.le_of_ble_eq_true rfl, Nat.le_of_ble_eq_true rfl⟩) ?_
      clear hz33
      refine lv_if_eq (tgt := 184) hx hb dX5_wordHere_177 (by decide) (fun c34 => ?_) (fun c34 => ?_)
      · have h := jt c34 h
        refine lv_iconst (v := (-1 : Int32)) hx hb dX5_wordHere_184 (by decide) ?_
        exact W.iret hx hb hr (fun t ht _ => ⟨_, rfl, Option.some.inj h, ht.trans hH⟩) (fun q h => by cases h) dX5_wordHere_185 hlocks
      · have h := jf c34 h
        refine lv_iconst (v := (5 : Int32)) hx hb dX5_wordHere_180 (by decide) ?_
        refine lv_goto (tgt := 185) hx hb dX5_wordHere_181 (by decide) ?_
        exact W.iret hx hb hr (fun t ht _ => ⟨_, rfl, Option.some.inj h, ht.trans hH⟩) (fun q h => by cases h) dX5_wordHere_185 hlocks
    have h := jf c32 h
    by_cases c35 : z1 = (115 : Int32)
    · have h := jt c35 h
      refine lv_tableIn (off := 148) (tgt := 156) hx hb dX5_wordHere_8 (by rw [c35]; decide) (by rw [c35]; decide) (by rw [c35]; rfl) (by decide) ?_
      refine lv_aload_n hx hb dX5_wordHere_156 rfl (lv_at hl 0 rfl) ?_
      refine va_ldcS hx hb hown (hZ.2.1 4 (by decide)) dX5_wordHere_157 ?_
      obtain ⟨z36, hz36, h⟩ := jb h
      refine jki (jrVs (As := [.ref (adK 4)]) (rest := []) ⟨hx, hb, hml, hown, hts⟩ (c_X5_isHere l D cyI cyZ cyT adK adV qa  N 4 vx z36 hz36 (by decide)) (cwV 1 hts gX5_wordHere_X5_isHere rfl rfl rfl (by decide +kernel) ⟨Nat.le_of_ble_eq_true rfl, Nat.le_of_ble_eq_true rfl⟩) hK hP (hZ.none hS) rfl 5 0 rfl rfl rfl hl.1 (Nat.le_of_ble_eq_true rfl) dX5_wordHere_159 ⟨Nat.le_of_ble_eq_true rfl, Nat.le_of_ble_eq_true rfl⟩) ?_
      clear hz36
      refine lv_if_eq (tgt := 169) hx hb dX5_wordHere_162 (by decide) (fun c37 => ?_) (fun c37 => ?_)
      · have h := jt c37 h
        refine lv_iconst (v := (-1 : Int32)) hx hb dX5_wordHere_169 (by decide) ?_
        exact W.iret hx hb hr (fun t ht _ => ⟨_, rfl, Option.some.inj h, ht.trans hH⟩) (fun q h => by cases h) dX5_wordHere_170 hlocks
      · have h := jf c37 h
        refine lv_iconst (v := (4 : Int32)) hx hb dX5_wordHere_165 (by decide) ?_
        refine lv_goto (tgt := 170) hx hb dX5_wordHere_166 (by decide) ?_
        exact W.iret hx hb hr (fun t ht _ => ⟨_, rfl, Option.some.inj h, ht.trans hH⟩) (fun q h => by cases h) dX5_wordHere_170 hlocks
    have h := jf c35 h
    refine lv_tableOut (tgt := 234) hx hb dX5_wordHere_8 (by have d0 := jne (z := 98) rfl c2; have d1 := jne (z := 99) rfl c5; have d2 := jne (z := 100) rfl c8; have d3 := jne (z := 101) rfl c11; have d4 := jne (z := 102) rfl c12; have d5 := jne (z := 103) rfl c13; have d6 := jne (z := 104) rfl c16; have d7 := jne (z := 105) rfl c19; have d8 := jne (z := 106) rfl c20; have d9 := jne (z := 107) rfl c21; have d10 := jne (z := 108) rfl c22; have d11 := jne (z := 109) rfl c23; have d12 := jne (z := 110) rfl c24; have d13 := jne (z := 111) rfl c25; have d14 := jne (z := 112) rfl c26; have d15 := jne (z := 113) rfl c29; have d16 := jne (z := 114) rfl c32; have d17 := jne (z := 115) rfl c35; omega) (by decide) ?_
    refine lv_iconst (v := (-1 : Int32)) hx hb dX5_wordHere_234 (by decide) ?_
    exact W.iret hx hb hr (fun t ht _ => ⟨_, rfl, Option.some.inj h, ht.trans hH⟩) (fun q h => by cases h) dX5_wordHere_235 hlocks
  exact key s.heap hP rfl
theorem kw_X5_readClause_1 : (.fieldLink RX5 15 "BellTheCat$Text" "numbers" "[I" : Cond) ∈ wsX5_readClause := List.mem_of_getElem? (i := 1) rfl
theorem in_X5_readClause_X5 : ∀ w ∈ wsX50, w ∈ wsX5_readClause := fun w h => List.mem_cons_of_mem _ (List.mem_append_left _ (List.mem_append_right _ h))
abbrev rm_X5_readClause : Room := { frames := 6, cells := 0, slots := 0, locals := 127 }
set_option maxHeartbeats 4000000 in
set_option maxRecDepth 100000 in
theorem c_X5_readClause (l : Launch) (D : va_G) (cyI cyZ cyT : ClassId) (adK adV : Nat → Nat) (qa qb : Nat → Nat) (sz : Nat) (N : Nat) (vx : Mo) (vh : Mo) (o : (Int32 × Mo × Mo)) (hf : f_X5_readClause N vx vh = some o) : Met l yX5_readClause wsX5_readClause rm_X5_readClause (va_Pc [.ref (qa 0), .ref (qb 0)] (jMS adK adV D cyI cyZ cyT (wTx cyI qa vx ++ wH cyI qb vh) sz)) (jQi D (va_A (wTx cyI qa vx ++ wH cyI qb vh) sz) (fun u : (Mo × Mo) => wTx cyI qa u.1 ++ wH cyI qb u.2) o) 0 0 (va_A (wTx cyI qa vx ++ wH cyI qb vh) sz) := by
  refine Met.ofW (cc := cX5_readClause) (maxL := 5) (ret := (some .boolean)) (by decide) rfl ?_
  intro p e s m args below meth c s₁ B hml hv
  obtain ⟨rfl, ⟨hsz, hP, hK, hD0⟩, hZ⟩ := hv
  have hx := B.exec
  have hb := B.bytes
  have hr := B.returns
  have hts := atoms_spec (ws := wsX5_readClause) B.pre
  have hown : s.vm.findClass RX5 = some m.cls := findClass_of_methodNamed B.named
  have hlocks := B.notSynchronized
  subst hsz
  have hD := hD0.self (sz := s.heap.size)
  generalize hAe : va_A (wTx cyI qa vx ++ wH cyI qb vh) s.heap.size = A at hD hZ ⊢
  have hA : ∀ q : Nat, s.heap.size ≤ q → A q := fun q h => by rw [← hAe]; exact Or.inr h
  have hS : va_S A s.heap s.heap [] := va_S.rf
  have hl := lv_entry ([.ref (qa 0), .ref (qb 0)]) (n := 5) (Nat.le_of_ble_eq_true rfl)
  rw [lg_entry_eq]
  generalize (lg_sl ([.ref (qa 0), .ref (qb 0)]) ++ List.replicate (5 - (lg_sl ([.ref (qa 0), .ref (qb 0)])).length) Slot.unset).toArray = ls at hl ⊢
  have hl : lv_has ls 5 [(0, .ref (qa 0)), (1, .ref (qb 0))] := hl
  clear B
  generalize ([.ref (qa 0), .ref (qb 0)] : List Value).toArray = args at hts ⊢
  have key : ∀ (H : Heap) (locs : List Loc), va_P D vwCl (wTx cyI qa vx ++ wH cyI qb vh) H → va_D A (wTx cyI qa vx ++ wH cyI qb vh) → va_S A s.heap H locs → W p l e rm_X5_readClause s m args below meth c H locs 0 0 (MQ below (jQi D A (fun u : (Mo × Mo) => wTx cyI qa u.1 ++ wH cyI qb u.2) o) args s 0 0 A) (F0 m 0 ls []) := by
    intro H locs hP hD hS
    have h := hf
    unfold f_X5_readClause at h
    refine lv_aload_n hx hb dX5_readClause_0 rfl (lv_at hl 0 rfl) ?_
    obtain ⟨z1, hz1, h⟩ := jb h
    refine jki (jrVs (As := []) (rest := []) ⟨hx, hb, hml, hown, hts⟩ (c_X5_wordHere l D cyI cyZ cyT adK adV qa  N vx z1 hz1) (cwV 0 hts gX5_readClause_X5_wordHere rfl rfl rfl (by decide +kernel) ⟨Nat.le_of_ble_eq_true rfl, Nat.le_of_ble_eq_true rfl⟩) hK (hP.sub (ws' := wTx cyI qa vx) [0, 1, 2] rfl) (hZ.none hS) rfl 5 0 rfl rfl rfl hl.1 (Nat.le_of_ble_eq_true rfl) dX5_readClause_1 ⟨Nat.le_of_ble_eq_true rfl, Nat.le_of_ble_eq_true rfl⟩) ?_
    clear hz1
    refine lv_istore_n (lv' := [(2, .int z1), (0, .ref (qa 0)), (1, .ref (qb 0))]) hx hb dX5_readClause_4 rfl hl (by decide) rfl (fun ls hl => ?_)
    refine lv_aload_n hx hb dX5_readClause_5 rfl (lv_at hl 2 rfl) ?_
    refine lv_iload_n hx hb dX5_readClause_6 rfl (lv_at hl 0 rfl) ?_
    obtain ⟨z2, hz2, h⟩ := jb h
    refine jki (jrV (As := [.int z1]) (rest := []) ⟨hx, hb, hml, hown, hts⟩ (c_X0_takes l D cyI cyZ cyT qb  z1 vh z2 hz2) (cwV 1 hts gX5_readClause_X0_takes rfl rfl rfl (by decide +kernel) ⟨Nat.le_of_ble_eq_true rfl, Nat.le_of_ble_eq_true rfl⟩) hK (hP.sub (ws' := wH cyI qb vh) [3, 4, 5, 6, 7, 8, 9, 10, 11] rfl) rfl 0 0 rfl rfl rfl hl.1 (Nat.le_of_ble_eq_true rfl) dX5_readClause_7 ⟨Nat.le_of_ble_eq_true rfl, Nat.le_of_ble_eq_true rfl⟩) ?_
    clear hz2
    refine lv_if_ne (tgt := 15) hx hb dX5_readClause_10 (by decide) (fun c3 => ?_) (fun c3 => ?_)
    · have h := jf c3 h
      refine lv_aload_n hx hb dX5_readClause_15 rfl (lv_at hl 1 rfl) ?_
      obtain ⟨z4, hz4, h⟩ := jb h
      refine jgv (w1 := fun u : Mo => wTx cyI qa u) (wn := wTx cyI qa z4 ++ wH cyI qb vh) (jmV (As := []) (rest := []) ⟨hx, hb, hml, hown, hts⟩ (c_X5_nextToken l D cyI cyZ cyT qa H.size N vx z4 hz4) (cwV 0 hts gX5_readClause_X5_nextToken rfl rfl rfl (by decide +kernel) ⟨Nat.le_of_ble_eq_true rfl, Nat.le_of_ble_eq_true rfl⟩) hK (hP.sub (ws' := wTx cyI qa vx) [0, 1, 2] rfl) (hD.sub (ws' := wTx cyI qa vx) [0, 1, 2] (by decide) rfl) rfl 5 0 rfl rfl rfl hl.1 (Nat.le_of_ble_eq_true rfl) dX5_readClause_16 ⟨Nat.le_of_ble_eq_true rfl, Nat.le_of_ble_eq_true rfl⟩) hP hD hS hA [0, 1, 2] [3, 4, 5, 6, 7, 8, 9, 10, 11] [9, 10, 11, 0, 1, 2, 3, 4, 5, 6, 7, 8] rfl rfl (by decide) (by decide) rfl (by decide) (fun H locs hP hD hS => ?_)
      clear hz4
      refine lv_aload_n hx hb dX5_readClause_19 rfl (lv_at hl 1 rfl) ?_
      refine va_get (D := D) (ci := 5) (v := .ref (qa 2)) (C := RX5) (T := TX5) (N := 6) hx hb hts in_X5_readClause_X5 hown hK.1 hP 0 rfl rfl 1 (by decide) (hts _ kw_X5_readClause_1) (fun _ h9 => h9) rfl dX5_readClause_20 ?_
      refine lv_iconst (v := (0 : Int32)) hx hb dX5_readClause_23 (by decide) ?_
      obtain ⟨z5, hz5, h⟩ := jb h
      refine jgv (w1 := fun u : (Nat → Int32) => wA cyI (fun k => qa (2 + k)) 3 u) (wn := wTx cyI qa (va_up z4.1 1 z5, z4.2) ++ wH cyI qb vh) (jmS (As := [.ref (qa 2), .int (0 : Int32)]) (rest := []) ⟨hx, hb, hml, hown, hts⟩ (c_J7_fill_53178 l D cyI cyZ cyT (fun k => qa (2 + k)) H.size N (0 : Int32) 3 (z4.1 1) z5 hz5) (va_cwS 2 hts gX5_readClause_J7_fill_53178 rfl rfl rfl (by decide +kernel) ⟨Nat.le_of_ble_eq_true rfl, Nat.le_of_ble_eq_true rfl⟩) hK (hP.sub (ws' := wA cyI (fun k => qa (2 + k)) 3 (z4.1 1)) [2] rfl) (hD.sub (ws' := wA cyI (fun k => qa (2 + k)) 3 (z4.1 1)) [2] (by decide) rfl) rfl rfl hl.1 (Nat.le_of_ble_eq_true rfl) dX5_readClause_24 ⟨Nat.le_of_ble_eq_true rfl, Nat.le_of_ble_eq_true rfl⟩) hP hD hS hA [2] [0, 1, 3, 4, 5, 6, 7, 8, 9, 10, 11] [0, 1, 11, 2, 3, 4, 5, 6, 7, 8, 9, 10] rfl rfl (by decide) (by decide) rfl (by decide) (fun H locs hP hD hS => ?_)
      clear hz5
      refine lv_iconst (v := (0 : Int32)) hx hb dX5_readClause_27 (by decide) ?_
      refine lv_istore_n (lv' := [(3, .int (0 : Int32)), (2, .int z1), (0, .ref (qa 0)), (1, .ref (qb 0))]) hx hb dX5_readClause_28 rfl hl (by decide) rfl (fun ls hl => ?_)
      obtain ⟨r6, hz6, h6_⟩ := jb h
      have hex6 : ∀ e6 : Mo, r6 = .inl e6 → ∀ (H : Heap) (locs : List Loc), va_P D vwCl (wTx cyI qa e6 ++ wH cyI qb vh) H → va_D A (wTx cyI qa e6 ++ wH cyI qb vh) → va_S A s.heap H locs → ∀ (ls : Array Slot), lv_has ls 5 [(0, .ref (qa 0)), (1, .ref (qb 0)), (2, .int z1)] → W p l e rm_X5_readClause s m args below meth c H locs 0 0 (MQ below (jQi D A (fun u : (Mo × Mo) => wTx cyI qa u.1 ++ wH cyI qb u.2) o) args s 0 0 A) (F0 m 83 ls []) := by
        intro e6 he H locs hP hD hS ls hl
        have h := jsl h6_ he
        clear hz6
        refine lv_aload_n hx hb dX5_readClause_83 rfl (lv_at hl 1 rfl) ?_
        refine lv_iload_n hx hb dX5_readClause_84 rfl (lv_at hl 2 rfl) ?_
        refine lv_aload_n hx hb dX5_readClause_85 rfl (lv_at hl 0 rfl) ?_
        refine va_get (D := D) (ci := 5) (v := .ref (qa 2)) (C := RX5) (T := TX5) (N := 6) hx hb hts in_X5_readClause_X5 hown hK.1 hP 0 rfl rfl 1 (by decide) (hts _ kw_X5_readClause_1) (fun _ h9 => h9) rfl dX5_readClause_86 ?_
        refine lv_iconst (v := (0 : Int32)) hx hb dX5_readClause_89 (by decide) ?_
        refine jald hx hb hK hP 2 rfl 0 (by decide) (by decide) dX5_readClause_90 ?_
        refine lv_aload_n hx hb dX5_readClause_91 rfl (lv_at hl 0 rfl) ?_
        refine va_get (D := D) (ci := 5) (v := .ref (qa 2)) (C := RX5) (T := TX5) (N := 6) hx hb hts in_X5_readClause_X5 hown hK.1 hP 0 rfl rfl 1 (by decide) (hts _ kw_X5_readClause_1) (fun _ h9 => h9) rfl dX5_readClause_92 ?_
        refine lv_iconst (v := (1 : Int32)) hx hb dX5_readClause_95 (by decide) ?_
        refine jald hx hb hK hP 2 rfl 1 (by decide) (by decide) dX5_readClause_96 ?_
        refine lv_aload_n hx hb dX5_readClause_97 rfl (lv_at hl 0 rfl) ?_
        refine va_get (D := D) (ci := 5) (v := .ref (qa 2)) (C := RX5) (T := TX5) (N := 6) hx hb hts in_X5_readClause_X5 hown hK.1 hP 0 rfl rfl 1 (by decide) (hts _ kw_X5_readClause_1) (fun _ h9 => h9) rfl dX5_readClause_98 ?_
        refine lv_iconst (v := (2 : Int32)) hx hb dX5_readClause_101 (by decide) ?_
        refine jald hx hb hK hP 2 rfl 2 (by decide) (by decide) dX5_readClause_102 ?_
        obtain ⟨z16, hz16, h⟩ := jb h
        refine jgv (w1 := fun u : Mo => wH cyI qb u) (wn := wTx cyI qa e6 ++ wH cyI qb z16) (jmV (As := [.int z1, .int (e6.1 1 0), .int (e6.1 1 1), .int (e6.1 1 2)]) (rest := []) ⟨hx, hb, hml, hown, hts⟩ (c_X0_apply l D cyI cyZ cyT qb H.size z1 (e6.1 1 0) (e6.1 1 1) (e6.1 1 2) vh z16 hz16) (cwV 4 hts gX5_readClause_X0_apply rfl rfl rfl (by decide +kernel) ⟨Nat.le_of_ble_eq_true rfl, Nat.le_of_ble_eq_true rfl⟩) hK (hP.sub (ws' := wH cyI qb vh) [3, 4, 5, 6, 7, 8, 9, 10, 11] rfl) (hD.sub (ws' := wH cyI qb vh) [3, 4, 5, 6, 7, 8, 9, 10, 11] (by decide) rfl) rfl 0 0 rfl rfl rfl hl.1 (Nat.le_of_ble_eq_true rfl) dX5_readClause_103 ⟨Nat.le_of_ble_eq_true rfl, Nat.le_of_ble_eq_true rfl⟩) hP hD hS hA [3, 4, 5, 6, 7, 8, 9, 10, 11] [0, 1, 2] [0, 1, 2, 3, 4, 5, 6, 7, 8, 9, 10, 11] rfl rfl (by decide) (by decide) rfl (by decide) (fun H locs hP hD hS => ?_)
        clear hz16
        refine lv_iconst (v := (1 : Int32)) hx hb dX5_readClause_106 (by decide) ?_
        exact W.zret hx hb hr rfl (fun t ht _ => ⟨⟨_, _, rfl, Option.some.inj h, by rw [ht]; exact hP, hD⟩, hS.F ht⟩) hS.2.2 dX5_readClause_107 hlocks
      have hlp6 : ∀ (nn : Nat) (z6 : (Int32 × Mo)), jw (X5_readClause_s29 N vh z1) nn z6 = some r6 → ∀ (H : Heap) (locs : List Loc), va_P D vwCl (wTx cyI qa z6.2 ++ wH cyI qb vh) H → va_D A (wTx cyI qa z6.2 ++ wH cyI qb vh) → va_S A s.heap H locs → ∀ (ls : Array Slot), lv_has ls 5 [(0, .ref (qa 0)), (1, .ref (qb 0)), (2, .int z1), (3, .int z6.1)] → W p l e rm_X5_readClause s m args below meth c H locs 0 0 (MQ below (jQi D A (fun u : (Mo × Mo) => wTx cyI qa u.1 ++ wH cyI qb u.2) o) args s 0 0 A) (F0 m 29 ls []) := by
        refine jw_P (r := r6) (P := fun z6 : (Int32 × Mo) => ∀ (H : Heap) (locs : List Loc), va_P D vwCl (wTx cyI qa z6.2 ++ wH cyI qb vh) H → va_D A (wTx cyI qa z6.2 ++ wH cyI qb vh) → va_S A s.heap H locs → ∀ (ls : Array Slot), lv_has ls 5 [(0, .ref (qa 0)), (1, .ref (qb 0)), (2, .int z1), (3, .int z6.1)] → W p l e rm_X5_readClause s m args below meth c H locs 0 0 (MQ below (jQi D A (fun u : (Mo × Mo) => wTx cyI qa u.1 ++ wH cyI qb u.2) o) args s 0 0 A) (F0 m 29 ls [])) ?_
        intro z6 x6 h hin hout H locs hP hD hS ls hl
        unfold X5_readClause_s29 at h
        refine lv_iload_n hx hb dX5_readClause_29 rfl (lv_at hl 3 rfl) ?_
        refine lv_iload_n hx hb dX5_readClause_30 rfl (lv_at hl 2 rfl) ?_
        obtain ⟨z7, hz7, h⟩ := jb h
        refine jki (jrS (As := [.int z1]) (rest := [.int z6.1]) ⟨hx, hb, hml, hown, hts⟩ (c_X5_numbersBehind l D cyI cyZ cyT   z1 z7 hz7) (va_cwS 1 hts gX5_readClause_X5_numbersBehind rfl rfl rfl (by decide +kernel) ⟨Nat.le_of_ble_eq_true rfl, Nat.le_of_ble_eq_true rfl⟩) hK jP0 rfl rfl hl.1 (Nat.le_of_ble_eq_true rfl) dX5_readClause_31 ⟨Nat.le_of_ble_eq_true rfl, Nat.le_of_ble_eq_true rfl⟩) ?_
        clear hz7
        refine lv_icmp_ge (tgt := 83) hx hb dX5_readClause_34 (by decide) (fun c8 => ?_) (fun c8 => ?_)
        · have h := jt c8 h
          exact hex6 _ (hout _ (Option.some.inj h).symm).symm H locs hP hD hS ls (lv_sub hl [0, 1, 2] rfl)
        · have h := jf c8 h
          refine lv_iload_n hx hb dX5_readClause_37 rfl (lv_at hl 3 rfl) ?_
          refine lv_iconst (v := (3 : Int32)) hx hb dX5_readClause_38 (by decide) ?_
          refine lv_icmp_ge (tgt := 83) hx hb dX5_readClause_39 (by decide) (fun c9 => ?_) (fun c9 => ?_)
          · have h := jt c9 h
            exact hex6 _ (hout _ (Option.some.inj h).symm).symm H locs hP hD hS ls (lv_sub hl [0, 1, 2] rfl)
          · have h := jf c9 h
            refine lv_aload_n hx hb dX5_readClause_42 rfl (lv_at hl 0 rfl) ?_
            obtain ⟨z10, hz10, h⟩ := jb h
            refine jki (jrV (As := []) (rest := []) ⟨hx, hb, hml, hown, hts⟩ (c_X5_numberHere l D cyI cyZ cyT qa  N z6.2 z10 hz10) (cwV 0 hts gX5_readClause_X5_numberHere rfl rfl rfl (by decide +kernel) ⟨Nat.le_of_ble_eq_true rfl, Nat.le_of_ble_eq_true rfl⟩) hK (hP.sub (ws' := wTx cyI qa z6.2) [0, 1, 2] rfl) rfl 5 0 rfl rfl rfl hl.1 (Nat.le_of_ble_eq_true rfl) dX5_readClause_43 ⟨Nat.le_of_ble_eq_true rfl, Nat.le_of_ble_eq_true rfl⟩) ?_
            clear hz10
            refine lv_istore (lv' := [(4, .int z10), (0, .ref (qa 0)), (1, .ref (qb 0)), (2, .int z1), (3, .int z6.1)]) hx hb dX5_readClause_46 hl (by decide) rfl (fun ls hl => ?_)
            refine lv_iload hx hb dX5_readClause_48 (lv_at hl 0 rfl) ?_
            refine lv_if_lt (tgt := 63) hx hb dX5_readClause_50 (by decide) (fun c11 => ?_) (fun c11 => ?_)
            · have h := jt c11 h
              refine lv_iconst (v := (0 : Int32)) hx hb dX5_readClause_63 (by decide) ?_
              have h := jsr h6_ (hout _ (Option.some.inj h).symm).symm
              exact W.zret hx hb hr rfl (fun t ht _ => ⟨⟨_, _, rfl, Option.some.inj h, by rw [ht]; exact hP, hD⟩, hS.F ht⟩) hS.2.2 dX5_readClause_64 hlocks
            · have h := jf c11 h
              refine lv_iload hx hb dX5_readClause_53 (lv_at hl 0 rfl) ?_
              refine lv_iload_n hx hb dX5_readClause_55 rfl (lv_at hl 3 rfl) ?_
              refine lv_iload_n hx hb dX5_readClause_56 rfl (lv_at hl 4 rfl) ?_
              obtain ⟨z12, hz12, h⟩ := jb h
              refine jki (jrS (As := [.int z1, .int z6.1]) (rest := [.int z10]) ⟨hx, hb, hml, hown, hts⟩ (c_X5_mostOf l D cyI cyZ cyT   z1 z6.1 z12 hz12) (va_cwS 2 hts gX5_readClause_X5_mostOf rfl rfl rfl (by decide +kernel) ⟨Nat.le_of_ble_eq_true rfl, Nat.le_of_ble_eq_true rfl⟩) hK jP0 rfl rfl hl.1 (Nat.le_of_ble_eq_true rfl) dX5_readClause_57 ⟨Nat.le_of_ble_eq_true rfl, Nat.le_of_ble_eq_true rfl⟩) ?_
              clear hz12
              refine lv_icmp_le (tgt := 65) hx hb dX5_readClause_60 (by decide) (fun c13 => ?_) (fun c13 => ?_)
              · have h := jt c13 h
                refine lv_aload_n hx hb dX5_readClause_65 rfl (lv_at hl 1 rfl) ?_
                refine va_get (D := D) (ci := 5) (v := .ref (qa 2)) (C := RX5) (T := TX5) (N := 6) hx hb hts in_X5_readClause_X5 hown hK.1 hP 0 rfl rfl 1 (by decide) (hts _ kw_X5_readClause_1) (fun _ h9 => h9) rfl dX5_readClause_66 ?_
                refine lv_iload_n hx hb dX5_readClause_69 rfl (lv_at hl 4 rfl) ?_
                refine lv_iload hx hb dX5_readClause_70 (lv_at hl 0 rfl) ?_
                obtain ⟨g14, h⟩ := jn h
                refine jast (w' := wTx cyI qa (va_up z6.2.1 1 (upd (z6.2.1 1) z6.1.toNatClampNeg z10), z6.2.2) ++ wH cyI qb vh) hx hb hK hP hD hS 2 rfl _ rfl g14 rfl dX5_readClause_72 (fun H locs hP hD hS => ?_)
                refine lv_aload_n hx hb dX5_readClause_73 rfl (lv_at hl 1 rfl) ?_
                obtain ⟨z15, hz15, h⟩ := jb h
                refine jgv (w1 := fun u : Mo => wTx cyI qa u) (wn := wTx cyI qa z15 ++ wH cyI qb vh) (jmV (As := []) (rest := []) ⟨hx, hb, hml, hown, hts⟩ (c_X5_nextToken l D cyI cyZ cyT qa H.size N (va_up z6.2.1 1 (upd (z6.2.1 1) z6.1.toNatClampNeg z10), z6.2.2) z15 hz15) (cwV 0 hts gX5_readClause_X5_nextToken rfl rfl rfl (by decide +kernel) ⟨Nat.le_of_ble_eq_true rfl, Nat.le_of_ble_eq_true rfl⟩) hK (hP.sub (ws' := wTx cyI qa (va_up z6.2.1 1 (upd (z6.2.1 1) z6.1.toNatClampNeg z10), z6.2.2)) [0, 1, 2] rfl) (hD.sub (ws' := wTx cyI qa (va_up z6.2.1 1 (upd (z6.2.1 1) z6.1.toNatClampNeg z10), z6.2.2)) [0, 1, 2] (by decide) rfl) rfl 5 0 rfl rfl rfl hl.1 (Nat.le_of_ble_eq_true rfl) dX5_readClause_74 ⟨Nat.le_of_ble_eq_true rfl, Nat.le_of_ble_eq_true rfl⟩) hP hD hS hA [0, 1, 2] [3, 4, 5, 6, 7, 8, 9, 10, 11] [9, 10, 11, 0, 1, 2, 3, 4, 5, 6, 7, 8] rfl rfl (by decide) (by decide) rfl (by decide) (fun H locs hP hD hS => ?_)
                clear hz15
                refine lv_iinc (v := z6.1 + (1 : Int32)) (lv' := [(3, .int (z6.1 + (1 : Int32))), (4, .int z10), (0, .ref (qa 0)), (1, .ref (qb 0)), (2, .int z1)]) hx hb dX5_readClause_77 hl (k := 4) rfl rfl (by decide) rfl (fun ls hl => ?_)
                refine lv_goto (tgt := 29) hx hb dX5_readClause_80 (by decide) ?_
                exact hin _ (Option.some.inj h).symm H locs hP hD hS ls (lv_sub hl [2, 3, 4, 0] rfl)
              · have h := jf c13 h
                refine lv_iconst (v := (0 : Int32)) hx hb dX5_readClause_63 (by decide) ?_
                have h := jsr h6_ (hout _ (Option.some.inj h).symm).symm
                exact W.zret hx hb hr rfl (fun t ht _ => ⟨⟨_, _, rfl, Option.some.inj h, by rw [ht]; exact hP, hD⟩, hS.F ht⟩) hS.2.2 dX5_readClause_64 hlocks
      exact hlp6 _ _ hz6 H locs hP hD hS ls (lv_sub hl [2, 3, 1, 0] rfl)
    · have h := jt c3 h
      refine lv_iconst (v := (0 : Int32)) hx hb dX5_readClause_13 (by decide) ?_
      exact W.zret hx hb hr rfl (fun t ht _ => ⟨⟨_, _, rfl, Option.some.inj h, by rw [ht]; exact hP, hD⟩, hS.F ht⟩) hS.2.2 dX5_readClause_14 hlocks
  exact key s.heap [] hP hD hS
theorem kw_X5_readInto_1 : (.fieldLink RX5 22 "BellTheCat$Text" "end" "I" : Cond) ∈ wsX5_readInto := List.mem_of_getElem? (i := 1) rfl
theorem kw_X5_readInto_2 : (.fieldLink RX5 32 "BellTheCat$Text" "start" "I" : Cond) ∈ wsX5_readInto := List.mem_of_getElem? (i := 2) rfl
theorem kw_X5_readInto_3 : (.fieldLink RX5 18 "BellTheCat$Text" "length" "I" : Cond) ∈ wsX5_readInto := List.mem_of_getElem? (i := 3) rfl
theorem kw_X5_readInto_4 : (.fieldLink RX5 35 "BellTheCat$Text" "clauses" "I" : Cond) ∈ wsX5_readInto := List.mem_of_getElem? (i := 4) rfl
theorem in_X5_readInto_X5 : ∀ w ∈ wsX50, w ∈ wsX5_readInto := fun w h => List.mem_cons_of_mem _ (List.mem_append_left _ (List.mem_append_right _ h))
abbrev rm_X5_readInto : Room := { frames := 7, cells := 0, slots := 0, locals := 151 }
set_option maxHeartbeats 4000000 in
set_option maxRecDepth 100000 in
theorem c_X5_readInto (l : Launch) (D : va_G) (cyI cyZ cyT : ClassId) (adK adV : Nat → Nat) (qa qb : Nat → Nat) (sz : Nat) (N : Nat) (vx : Mo) (vh : Mo) (o : (Int32 × Mo × Mo)) (hf : f_X5_readInto N vx vh = some o) : Met l yX5_readInto wsX5_readInto rm_X5_readInto (va_Pc [.ref (qa 0), .ref (qb 0)] (jMS adK adV D cyI cyZ cyT (wTx cyI qa vx ++ wH cyI qb vh) sz)) (jQi D (va_A (wTx cyI qa vx ++ wH cyI qb vh) sz) (fun u : (Mo × Mo) => wTx cyI qa u.1 ++ wH cyI qb u.2) o) 0 0 (va_A (wTx cyI qa vx ++ wH cyI qb vh) sz) := by
  refine Met.ofW (cc := cX5_readInto) (maxL := 3) (ret := (some .int)) (by decide) rfl ?_
  intro p e s m args below meth c s₁ B hml hv
  obtain ⟨rfl, ⟨hsz, hP, hK, hD0⟩, hZ⟩ := hv
  have hx := B.exec
  have hb := B.bytes
  have hr := B.returns
  have hts := atoms_spec (ws := wsX5_readInto) B.pre
  have hown : s.vm.findClass RX5 = some m.cls := findClass_of_methodNamed B.named
  have hlocks := B.notSynchronized
  subst hsz
  have hD := hD0.self (sz := s.heap.size)
  generalize hAe : va_A (wTx cyI qa vx ++ wH cyI qb vh) s.heap.size = A at hD hZ ⊢
  have hA : ∀ q : Nat, s.heap.size ≤ q → A q := fun q h => by rw [← hAe]; exact Or.inr h
  have hS : va_S A s.heap s.heap [] := va_S.rf
  have hl := lv_entry ([.ref (qa 0), .ref (qb 0)]) (n := 3) (Nat.le_of_ble_eq_true rfl)
  rw [lg_entry_eq]
  generalize (lg_sl ([.ref (qa 0), .ref (qb 0)]) ++ List.replicate (3 - (lg_sl ([.ref (qa 0), .ref (qb 0)])).length) Slot.unset).toArray = ls at hl ⊢
  have hl : lv_has ls 3 [(0, .ref (qa 0)), (1, .ref (qb 0))] := hl
  clear B
  generalize ([.ref (qa 0), .ref (qb 0)] : List Value).toArray = args at hts ⊢
  have key : ∀ (H : Heap) (locs : List Loc), va_P D vwCl (wTx cyI qa vx ++ wH cyI qb vh) H → va_D A (wTx cyI qa vx ++ wH cyI qb vh) → va_S A s.heap H locs → W p l e rm_X5_readInto s m args below meth c H locs 0 0 (MQ below (jQi D A (fun u : (Mo × Mo) => wTx cyI qa u.1 ++ wH cyI qb u.2) o) args s 0 0 A) (F0 m 0 ls []) := by
    intro H locs hP hD hS
    have h := hf
    unfold f_X5_readInto at h
    refine lv_aload_n hx hb dX5_readInto_0 rfl (lv_at hl 0 rfl) ?_
    refine lv_iconst (v := (0 : Int32)) hx hb dX5_readInto_1 (by decide) ?_
    refine va_put (D := D) (ci := 5) (v := .int (0 : Int32)) (ty := .int) (C := RX5) (T := TX5) (N := 6) hx hb hts in_X5_readInto_X5 tyX5 tyX5_ok nmX5 hown hK.1 hP hD hS 0 rfl rfl 5 (by decide) (hts _ kw_X5_readInto_1) (fun _ h9 => h9) rfl (tyX5_ok 5 (by decide)) rfl rfl (Nat.le_of_ble_eq_true rfl) dX5_readInto_2 (fun H locs hP hD hS => ?_)
    have hP : va_P D vwCl (wTx cyI qa (vx.1, va_up vx.2 3 (0 : Int32)) ++ wH cyI qb vh) H := hP
    have hD : va_D A (wTx cyI qa (vx.1, va_up vx.2 3 (0 : Int32)) ++ wH cyI qb vh) := hD
    refine lv_aload_n hx hb dX5_readInto_5 rfl (lv_at hl 0 rfl) ?_
    obtain ⟨z1, hz1, h⟩ := jb h
    refine jgv (w1 := fun u : Mo => wTx cyI qa u) (wn := wTx cyI qa z1 ++ wH cyI qb vh) (jmV (As := []) (rest := []) ⟨hx, hb, hml, hown, hts⟩ (c_X5_nextToken l D cyI cyZ cyT qa H.size N (vx.1, va_up vx.2 3 (0 : Int32)) z1 hz1) (cwV 0 hts gX5_readInto_X5_nextToken rfl rfl rfl (by decide +kernel) ⟨Nat.le_of_ble_eq_true rfl, Nat.le_of_ble_eq_true rfl⟩) hK (hP.sub (ws' := wTx cyI qa (vx.1, va_up vx.2 3 (0 : Int32))) [0, 1, 2] rfl) (hD.sub (ws' := wTx cyI qa (vx.1, va_up vx.2 3 (0 : Int32))) [0, 1, 2] (by decide) rfl) rfl 5 0 rfl rfl rfl hl.1 (Nat.le_of_ble_eq_true rfl) dX5_readInto_6 ⟨Nat.le_of_ble_eq_true rfl, Nat.le_of_ble_eq_true rfl⟩) hP hD hS hA [0, 1, 2] [3, 4, 5, 6, 7, 8, 9, 10, 11] [9, 10, 11, 0, 1, 2, 3, 4, 5, 6, 7, 8] rfl rfl (by decide) (by decide) rfl (by decide) (fun H locs hP hD hS => ?_)
    clear hz1
    refine lv_iconst (v := (1 : Int32)) hx hb dX5_readInto_9 (by decide) ?_
    refine lv_istore_n (lv' := [(2, .int (1 : Int32)), (0, .ref (qa 0)), (1, .ref (qb 0))]) hx hb dX5_readInto_10 rfl hl (by decide) rfl (fun ls hl => ?_)
    obtain ⟨r2, hz2, h2_⟩ := jb h
    have hex2 : ∀ e2 : (Mo × Mo), r2 = .inl e2 → ∀ (H : Heap) (locs : List Loc), va_P D vwCl (wTx cyI qa e2.1 ++ wH cyI qb e2.2) H → va_D A (wTx cyI qa e2.1 ++ wH cyI qb e2.2) → va_S A s.heap H locs → ∀ (ls : Array Slot), lv_has ls 3 [(0, .ref (qa 0))] → W p l e rm_X5_readInto s m args below meth c H locs 0 0 (MQ below (jQi D A (fun u : (Mo × Mo) => wTx cyI qa u.1 ++ wH cyI qb u.2) o) args s 0 0 A) (F0 m 82 ls []) := by
      intro e2 he H locs hP hD hS ls hl
      have h := jsl h2_ he
      clear hz2
      refine lv_aload_n hx hb dX5_readInto_82 rfl (lv_at hl 0 rfl) ?_
      refine va_get (D := D) (ci := 5) (v := .int (e2.1.2 2)) (C := RX5) (T := TX5) (N := 6) hx hb hts in_X5_readInto_X5 hown hK.1 hP 0 rfl rfl 4 (by decide) (hts _ kw_X5_readInto_2) (fun _ h9 => h9) rfl dX5_readInto_83 ?_
      exact W.iret hx hb hr (fun t ht _ => ⟨⟨_, _, rfl, Option.some.inj h, by rw [ht]; exact hP, hD⟩, hS.F ht⟩) hS.2.2 dX5_readInto_86 hlocks
    have hlp2 : ∀ (nn : Nat) (z2 : (Int32 × Mo × Mo)), jw (X5_readInto_s11 N) nn z2 = some r2 → ∀ (H : Heap) (locs : List Loc), va_P D vwCl (wTx cyI qa z2.2.1 ++ wH cyI qb z2.2.2) H → va_D A (wTx cyI qa z2.2.1 ++ wH cyI qb z2.2.2) → va_S A s.heap H locs → ∀ (ls : Array Slot), lv_has ls 3 [(0, .ref (qa 0)), (1, .ref (qb 0)), (2, .int z2.1)] → W p l e rm_X5_readInto s m args below meth c H locs 0 0 (MQ below (jQi D A (fun u : (Mo × Mo) => wTx cyI qa u.1 ++ wH cyI qb u.2) o) args s 0 0 A) (F0 m 11 ls []) := by
      refine jw_P (r := r2) (P := fun z2 : (Int32 × Mo × Mo) => ∀ (H : Heap) (locs : List Loc), va_P D vwCl (wTx cyI qa z2.2.1 ++ wH cyI qb z2.2.2) H → va_D A (wTx cyI qa z2.2.1 ++ wH cyI qb z2.2.2) → va_S A s.heap H locs → ∀ (ls : Array Slot), lv_has ls 3 [(0, .ref (qa 0)), (1, .ref (qb 0)), (2, .int z2.1)] → W p l e rm_X5_readInto s m args below meth c H locs 0 0 (MQ below (jQi D A (fun u : (Mo × Mo) => wTx cyI qa u.1 ++ wH cyI qb u.2) o) args s 0 0 A) (F0 m 11 ls [])) ?_
      intro z2 x2 h hin hout H locs hP hD hS ls hl
      unfold X5_readInto_s11 at h
      refine lv_iload_n hx hb dX5_readInto_11 rfl (lv_at hl 2 rfl) ?_
      refine lv_bipush (v := (14 : Int32)) hx hb dX5_readInto_12 (by decide) ?_
      refine lv_icmp_gt (tgt := 82) hx hb dX5_readInto_14 (by decide) (fun c3 => ?_) (fun c3 => ?_)
      · have h := jt c3 h
        exact hex2 _ (hout _ (Option.some.inj h).symm).symm H locs hP hD hS ls (lv_sub hl [0] rfl)
      · have h := jf c3 h
        refine lv_aload_n hx hb dX5_readInto_17 rfl (lv_at hl 0 rfl) ?_
        refine lv_aload_n hx hb dX5_readInto_18 rfl (lv_at hl 1 rfl) ?_
        obtain ⟨z4, hz4, h⟩ := jb h
        refine jgi (w1 := fun u : (Mo × Mo) => wTx cyI qa u.1 ++ wH cyI qb u.2) (wn := wTx cyI qa z4.2.1 ++ wH cyI qb z4.2.2) (jmVs (As := [.ref (qb 0)]) (rest := []) ⟨hx, hb, hml, hown, hts⟩ (c_X5_readClause l D cyI cyZ cyT adK adV qa qb H.size N z2.2.1 z2.2.2 z4 hz4) (cwV 1 hts gX5_readInto_X5_readClause rfl rfl rfl (by decide +kernel) ⟨Nat.le_of_ble_eq_true rfl, Nat.le_of_ble_eq_true rfl⟩) hK hP hD ((hZ.kept hS.2.1).narrow (va_free (wc := wTx cyI qa z2.2.1 ++ wH cyI qb z2.2.2) hD hS hA [0, 1, 2, 3, 4, 5, 6, 7, 8, 9, 10, 11] rfl)) rfl 5 0 rfl rfl rfl hl.1 (Nat.le_of_ble_eq_true rfl) dX5_readInto_19 ⟨Nat.le_of_ble_eq_true rfl, Nat.le_of_ble_eq_true rfl⟩) hP hD hS hA [0, 1, 2, 3, 4, 5, 6, 7, 8, 9, 10, 11] [] [0, 1, 2, 3, 4, 5, 6, 7, 8, 9, 10, 11] rfl rfl (by decide) (by decide) rfl (by decide) (fun H locs hP hD hS => ?_)
        clear hz4
        refine lv_if_ne (tgt := 30) hx hb dX5_readInto_22 (by decide) (fun c5 => ?_) (fun c5 => ?_)
        · have h := jf c5 h
          refine lv_aload_n hx hb dX5_readInto_30 rfl (lv_at hl 0 rfl) ?_
          refine va_get (D := D) (ci := 5) (v := .int (z4.2.1.2 2)) (C := RX5) (T := TX5) (N := 6) hx hb hts in_X5_readInto_X5 hown hK.1 hP 0 rfl rfl 4 (by decide) (hts _ kw_X5_readInto_2) (fun _ h9 => h9) rfl dX5_readInto_31 ?_
          refine lv_aload_n hx hb dX5_readInto_34 rfl (lv_at hl 0 rfl) ?_
          refine va_get (D := D) (ci := 5) (v := .int (z4.2.1.2 0)) (C := RX5) (T := TX5) (N := 6) hx hb hts in_X5_readInto_X5 hown hK.1 hP 0 rfl rfl 2 (by decide) (hts _ kw_X5_readInto_3) (fun _ h9 => h9) rfl dX5_readInto_35 ?_
          refine lv_icmp_lt (tgt := 48) hx hb dX5_readInto_38 (by decide) (fun c6 => ?_) (fun c6 => ?_)
          · have h := jt c6 h
            refine lv_aload_n hx hb dX5_readInto_48 rfl (lv_at hl 0 rfl) ?_
            refine lv_aload_n hx hb dX5_readInto_49 rfl (lv_at hl 0 rfl) ?_
            refine va_get (D := D) (ci := 5) (v := .int (z4.2.1.2 2)) (C := RX5) (T := TX5) (N := 6) hx hb hts in_X5_readInto_X5 hown hK.1 hP 0 rfl rfl 4 (by decide) (hts _ kw_X5_readInto_2) (fun _ h9 => h9) rfl dX5_readInto_50 ?_
            obtain ⟨z7, hz7, h⟩ := jb h
            refine jki (jrV (As := [.int (z4.2.1.2 2)]) (rest := []) ⟨hx, hb, hml, hown, hts⟩ (c_X5_letterAt l D cyI cyZ cyT qa  (z4.2.1.2 2) z4.2.1 z7 hz7) (cwV 1 hts gX5_readInto_X5_letterAt rfl rfl rfl (by decide +kernel) ⟨Nat.le_of_ble_eq_true rfl, Nat.le_of_ble_eq_true rfl⟩) hK (hP.sub (ws' := wTx cyI qa z4.2.1) [0, 1, 2] rfl) rfl 5 0 rfl rfl rfl hl.1 (Nat.le_of_ble_eq_true rfl) dX5_readInto_53 ⟨Nat.le_of_ble_eq_true rfl, Nat.le_of_ble_eq_true rfl⟩) ?_
            clear hz7
            refine lv_bipush (v := (59 : Int32)) hx hb dX5_readInto_56 (by decide) ?_
            refine lv_icmp_ne (tgt := 67) hx hb dX5_readInto_58 (by decide) (fun c8 => ?_) (fun c8 => ?_)
            · have h := jf c8 h
              refine lv_aload_n hx hb dX5_readInto_67 rfl (lv_at hl 0 rfl) ?_
              refine va_get (D := D) (ci := 5) (v := .int (z4.2.1.2 2)) (C := RX5) (T := TX5) (N := 6) hx hb hts in_X5_readInto_X5 hown hK.1 hP 0 rfl rfl 4 (by decide) (hts _ kw_X5_readInto_2) (fun _ h9 => h9) rfl dX5_readInto_68 ?_
              have h := jsr h2_ (hout _ (Option.some.inj h).symm).symm
              exact W.iret hx hb hr (fun t ht _ => ⟨⟨_, _, rfl, Option.some.inj h, by rw [ht]; exact hP, hD⟩, hS.F ht⟩) hS.2.2 dX5_readInto_71 hlocks
            · have h := jt c8 h
              refine lv_iload_n hx hb dX5_readInto_61 rfl (lv_at hl 2 rfl) ?_
              refine lv_bipush (v := (14 : Int32)) hx hb dX5_readInto_62 (by decide) ?_
              refine lv_icmp_ne (tgt := 72) hx hb dX5_readInto_64 (by decide) (fun c9 => ?_) (fun c9 => ?_)
              · have h := jf c9 h
                refine lv_aload_n hx hb dX5_readInto_72 rfl (lv_at hl 0 rfl) ?_
                obtain ⟨z10, hz10, h⟩ := jb h
                refine jgv (w1 := fun u : Mo => wTx cyI qa u) (wn := wTx cyI qa z10 ++ wH cyI qb z4.2.2) (jmV (As := []) (rest := []) ⟨hx, hb, hml, hown, hts⟩ (c_X5_nextToken l D cyI cyZ cyT qa H.size N z4.2.1 z10 hz10) (cwV 0 hts gX5_readInto_X5_nextToken rfl rfl rfl (by decide +kernel) ⟨Nat.le_of_ble_eq_true rfl, Nat.le_of_ble_eq_true rfl⟩) hK (hP.sub (ws' := wTx cyI qa z4.2.1) [0, 1, 2] rfl) (hD.sub (ws' := wTx cyI qa z4.2.1) [0, 1, 2] (by decide) rfl) rfl 5 0 rfl rfl rfl hl.1 (Nat.le_of_ble_eq_true rfl) dX5_readInto_73 ⟨Nat.le_of_ble_eq_true rfl, Nat.le_of_ble_eq_true rfl⟩) hP hD hS hA [0, 1, 2] [3, 4, 5, 6, 7, 8, 9, 10, 11] [9, 10, 11, 0, 1, 2, 3, 4, 5, 6, 7, 8] rfl rfl (by decide) (by decide) rfl (by decide) (fun H locs hP hD hS => ?_)
                clear hz10
                refine lv_iinc (v := z2.1 + (1 : Int32)) (lv' := [(2, .int (z2.1 + (1 : Int32))), (0, .ref (qa 0)), (1, .ref (qb 0))]) hx hb dX5_readInto_76 hl (k := 2) rfl rfl (by decide) rfl (fun ls hl => ?_)
                refine lv_goto (tgt := 11) hx hb dX5_readInto_79 (by decide) ?_
                exact hin _ (Option.some.inj h).symm H locs hP hD hS ls (lv_sub hl [1, 2, 0] rfl)
              · have h := jt c9 h
                refine lv_aload_n hx hb dX5_readInto_67 rfl (lv_at hl 0 rfl) ?_
                refine va_get (D := D) (ci := 5) (v := .int (z4.2.1.2 2)) (C := RX5) (T := TX5) (N := 6) hx hb hts in_X5_readInto_X5 hown hK.1 hP 0 rfl rfl 4 (by decide) (hts _ kw_X5_readInto_2) (fun _ h9 => h9) rfl dX5_readInto_68 ?_
                have h := jsr h2_ (hout _ (Option.some.inj h).symm).symm
                exact W.iret hx hb hr (fun t ht _ => ⟨⟨_, _, rfl, Option.some.inj h, by rw [ht]; exact hP, hD⟩, hS.F ht⟩) hS.2.2 dX5_readInto_71 hlocks
          · have h := jf c6 h
            refine lv_aload_n hx hb dX5_readInto_41 rfl (lv_at hl 0 rfl) ?_
            refine lv_iload_n hx hb dX5_readInto_42 rfl (lv_at hl 2 rfl) ?_
            refine va_put (D := D) (ci := 5) (v := .int z2.1) (ty := .int) (C := RX5) (T := TX5) (N := 6) hx hb hts in_X5_readInto_X5 tyX5 tyX5_ok nmX5 hown hK.1 hP hD hS 0 rfl rfl 3 (by decide) (hts _ kw_X5_readInto_4) (fun _ h9 => h9) rfl (tyX5_ok 3 (by decide)) rfl rfl (Nat.le_of_ble_eq_true rfl) dX5_readInto_43 (fun H locs hP hD hS => ?_)
            have hP : va_P D vwCl (wTx cyI qa (z4.2.1.1, va_up z4.2.1.2 1 z2.1) ++ wH cyI qb z4.2.2) H := hP
            have hD : va_D A (wTx cyI qa (z4.2.1.1, va_up z4.2.1.2 1 z2.1) ++ wH cyI qb z4.2.2) := hD
            refine lv_iconst (v := (-1 : Int32)) hx hb dX5_readInto_46 (by decide) ?_
            have h := jsr h2_ (hout _ (Option.some.inj h).symm).symm
            exact W.iret hx hb hr (fun t ht _ => ⟨⟨_, _, rfl, Option.some.inj h, by rw [ht]; exact hP, hD⟩, hS.F ht⟩) hS.2.2 dX5_readInto_47 hlocks
        · have h := jt c5 h
          refine lv_aload_n hx hb dX5_readInto_25 rfl (lv_at hl 0 rfl) ?_
          refine va_get (D := D) (ci := 5) (v := .int (z4.2.1.2 2)) (C := RX5) (T := TX5) (N := 6) hx hb hts in_X5_readInto_X5 hown hK.1 hP 0 rfl rfl 4 (by decide) (hts _ kw_X5_readInto_2) (fun _ h9 => h9) rfl dX5_readInto_26 ?_
          have h := jsr h2_ (hout _ (Option.some.inj h).symm).symm
          exact W.iret hx hb hr (fun t ht _ => ⟨⟨_, _, rfl, Option.some.inj h, by rw [ht]; exact hP, hD⟩, hS.F ht⟩) hS.2.2 dX5_readInto_29 hlocks
    exact hlp2 _ _ hz2 H locs hP hD hS ls (lv_sub hl [1, 2, 0] rfl)
  exact key s.heap [] hP hD hS
theorem kw_X7_readDraft_1 : (.fieldLink RX7 23 "BellTheCat" "draft" "LBellTheCat$House;" : Cond) ∈ wsX7_readDraft := List.mem_of_getElem? (i := 1) rfl
theorem kw_X7_readDraft_2 : (.fieldLink RX7 19 "BellTheCat" "told" "LBellTheCat$House;" : Cond) ∈ wsX7_readDraft := List.mem_of_getElem? (i := 2) rfl
theorem kw_X7_readDraft_3 : (.fieldLink RX7 10 "BellTheCat" "text" "LBellTheCat$Text;" : Cond) ∈ wsX7_readDraft := List.mem_of_getElem? (i := 3) rfl
theorem in_X7_readDraft_X7 : ∀ w ∈ wsX70, w ∈ wsX7_readDraft := fun w h => List.mem_cons_of_mem _ (List.mem_append_left _ (List.mem_append_left _ (List.mem_append_right _ h)))
abbrev rm_X7_readDraft : Room := { frames := 8, cells := 0, slots := 0, locals := 173 }
set_option maxHeartbeats 4000000 in
set_option maxRecDepth 100000 in
theorem c_X7_readDraft (l : Launch) (D : va_G) (cyI cyZ cyT : ClassId) (adK adV : Nat → Nat) (qa : Nat → Nat) (sz : Nat) (N : Nat) (X : BX) (o : (Int32 × BX)) (hf : f_X7_readDraft N X = some o) : Met l yX7_readDraft wsX7_readDraft rm_X7_readDraft (va_Pc [.ref (qa 0)] (jMS adK adV D cyI cyZ cyT (wX cyI cyZ cyT qa X) sz)) (jQi D (va_A (wX cyI cyZ cyT qa X) sz) (fun u : BX => wX cyI cyZ cyT qa u) o) 0 0 (va_A (wX cyI cyZ cyT qa X) sz) := by
  refine Met.ofW (cc := cX7_readDraft) (maxL := 1) (ret := (some .int)) (by decide) rfl ?_
  intro p e s m args below meth c s₁ B hml hv
  obtain ⟨rfl, ⟨hsz, hP, hK, hD0⟩, hZ⟩ := hv
  have hx := B.exec
  have hb := B.bytes
  have hr := B.returns
  have hts := atoms_spec (ws := wsX7_readDraft) B.pre
  have hown : s.vm.findClass RX7 = some m.cls := findClass_of_methodNamed B.named
  have hlocks := B.notSynchronized
  subst hsz
  have hD := hD0.self (sz := s.heap.size)
  generalize hAe : va_A (wX cyI cyZ cyT qa X) s.heap.size = A at hD hZ ⊢
  have hA : ∀ q : Nat, s.heap.size ≤ q → A q := fun q h => by rw [← hAe]; exact Or.inr h
  have hS : va_S A s.heap s.heap [] := va_S.rf
  have hl := lv_entry ([.ref (qa 0)]) (n := 1) (Nat.le_of_ble_eq_true rfl)
  rw [lg_entry_eq]
  generalize (lg_sl ([.ref (qa 0)]) ++ List.replicate (1 - (lg_sl ([.ref (qa 0)])).length) Slot.unset).toArray = ls at hl ⊢
  have hl : lv_has ls 1 [(0, .ref (qa 0))] := hl
  clear B
  generalize ([.ref (qa 0)] : List Value).toArray = args at hts ⊢
  have key : ∀ (H : Heap) (locs : List Loc), va_P D vwCl (wX cyI cyZ cyT qa X) H → va_D A (wX cyI cyZ cyT qa X) → va_S A s.heap H locs → W p l e rm_X7_readDraft s m args below meth c H locs 0 0 (MQ below (jQi D A (fun u : BX => wX cyI cyZ cyT qa u) o) args s 0 0 A) (F0 m 0 ls []) := by
    intro H locs hP hD hS
    have h := hf
    unfold f_X7_readDraft at h
    refine lv_aload_n hx hb dX7_readDraft_0 rfl (lv_at hl 0 rfl) ?_
    refine va_get (D := D) (ci := 7) (v := .ref (qa 13)) (C := RX7) (T := TX7) (N := 10) hx hb hts in_X7_readDraft_X7 hown hK.1 hP 0 rfl rfl 2 (by decide) (hts _ kw_X7_readDraft_1) (fun _ h9 => h9) rfl dX7_readDraft_1 ?_
    refine lv_aload_n hx hb dX7_readDraft_4 rfl (lv_at hl 0 rfl) ?_
    refine va_get (D := D) (ci := 7) (v := .ref (qa 4)) (C := RX7) (T := TX7) (N := 10) hx hb hts in_X7_readDraft_X7 hown hK.1 hP 0 rfl rfl 1 (by decide) (hts _ kw_X7_readDraft_2) (fun _ h9 => h9) rfl dX7_readDraft_5 ?_
    obtain ⟨z1, hz1, h⟩ := jb h
    refine jgv (w1 := fun u : Mo => wH cyI (fun k => qa (13 + k)) u ++ wH cyI (fun k => qa (4 + k)) (X.1 1)) (wn := wX cyI cyZ cyT qa (va_up X.1 2 z1, X.2.1, X.2.2.1, X.2.2.2)) (jmV (As := [.ref (qa 4)]) (rest := []) ⟨hx, hb, hml, hown, hts⟩ (c_X0_copyFrom l D cyI cyZ cyT (fun k => qa (13 + k)) (fun k => qa (4 + k)) H.size N (X.1 2) (X.1 1) z1 hz1) (cwV 1 hts gX7_readDraft_X0_copyFrom rfl rfl rfl (by decide +kernel) ⟨Nat.le_of_ble_eq_true rfl, Nat.le_of_ble_eq_true rfl⟩) hK (hP.sub (ws' := wH cyI (fun k => qa (13 + k)) (X.1 2) ++ wH cyI (fun k => qa (4 + k)) (X.1 1)) [13, 14, 15, 16, 17, 18, 19, 20, 21, 4, 5, 6, 7, 8, 9, 10, 11, 12] rfl) (hD.sub (ws' := wH cyI (fun k => qa (13 + k)) (X.1 2) ++ wH cyI (fun k => qa (4 + k)) (X.1 1)) [13, 14, 15, 16, 17, 18, 19, 20, 21, 4, 5, 6, 7, 8, 9, 10, 11, 12] (by decide) rfl) rfl 0 0 rfl rfl rfl hl.1 (Nat.le_of_ble_eq_true rfl) dX7_readDraft_8 ⟨Nat.le_of_ble_eq_true rfl, Nat.le_of_ble_eq_true rfl⟩) hP hD hS hA [13, 14, 15, 16, 17, 18, 19, 20, 21, 4, 5, 6, 7, 8, 9, 10, 11, 12] [0, 1, 2, 3, 22, 23, 24, 25, 26, 27, 28, 29, 30, 31, 32, 33, 34, 35, 36, 37, 38, 39, 40, 41, 42, 43, 44, 45, 46, 47, 48, 49, 50, 51, 52, 53, 54] [0, 1, 2, 3, 46, 47, 48, 49, 50, 51, 52, 53, 54, 37, 38, 39, 40, 41, 42, 43, 44, 45, 4, 5, 6, 7, 8, 9, 10, 11, 12, 13, 14, 15, 16, 17, 18, 19, 20, 21, 22, 23, 24, 25, 26, 27, 28, 29, 30, 31, 32, 33, 34, 35, 36] rfl rfl (by decide) (by decide) rfl (by decide) (fun H locs hP hD hS => ?_)
    clear hz1
    refine lv_aload_n hx hb dX7_readDraft_11 rfl (lv_at hl 0 rfl) ?_
    refine va_get (D := D) (ci := 7) (v := .ref (qa 1)) (C := RX7) (T := TX7) (N := 10) hx hb hts in_X7_readDraft_X7 hown hK.1 hP 0 rfl rfl 0 (by decide) (hts _ kw_X7_readDraft_3) (fun _ h9 => h9) rfl dX7_readDraft_12 ?_
    refine lv_aload_n hx hb dX7_readDraft_15 rfl (lv_at hl 0 rfl) ?_
    refine va_get (D := D) (ci := 7) (v := .ref (qa 13)) (C := RX7) (T := TX7) (N := 10) hx hb hts in_X7_readDraft_X7 hown hK.1 hP 0 rfl rfl 2 (by decide) (hts _ kw_X7_readDraft_1) (fun _ h9 => h9) rfl dX7_readDraft_16 ?_
    obtain ⟨z2, hz2, h⟩ := jb h
    refine jgi (w1 := fun u : (Mo × Mo) => wTx cyI (fun k => qa (1 + k)) u.1 ++ wH cyI (fun k => qa (13 + k)) u.2) (wn := wX cyI cyZ cyT qa (va_up (va_up X.1 0 z2.2.1) 2 z2.2.2, X.2.1, X.2.2.1, X.2.2.2)) (jmVs (As := [.ref (qa 13)]) (rest := []) ⟨hx, hb, hml, hown, hts⟩ (c_X5_readInto l D cyI cyZ cyT adK adV (fun k => qa (1 + k)) (fun k => qa (13 + k)) H.size N (X.1 0) z1 z2 hz2) (cwV 1 hts gX7_readDraft_X5_readInto rfl rfl rfl (by decide +kernel) ⟨Nat.le_of_ble_eq_true rfl, Nat.le_of_ble_eq_true rfl⟩) hK (hP.sub (ws' := wTx cyI (fun k => qa (1 + k)) (X.1 0) ++ wH cyI (fun k => qa (13 + k)) z1) [1, 2, 3, 13, 14, 15, 16, 17, 18, 19, 20, 21] rfl) (hD.sub (ws' := wTx cyI (fun k => qa (1 + k)) (X.1 0) ++ wH cyI (fun k => qa (13 + k)) z1) [1, 2, 3, 13, 14, 15, 16, 17, 18, 19, 20, 21] (by decide) rfl) ((hZ.kept hS.2.1).narrow (va_free (wc := wTx cyI (fun k => qa (1 + k)) (X.1 0) ++ wH cyI (fun k => qa (13 + k)) z1) hD hS hA [1, 2, 3, 13, 14, 15, 16, 17, 18, 19, 20, 21] rfl)) rfl 5 0 rfl rfl rfl hl.1 (Nat.le_of_ble_eq_true rfl) dX7_readDraft_19 ⟨Nat.le_of_ble_eq_true rfl, Nat.le_of_ble_eq_true rfl⟩) hP hD hS hA [1, 2, 3, 13, 14, 15, 16, 17, 18, 19, 20, 21] [0, 4, 5, 6, 7, 8, 9, 10, 11, 12, 22, 23, 24, 25, 26, 27, 28, 29, 30, 31, 32, 33, 34, 35, 36, 37, 38, 39, 40, 41, 42, 43, 44, 45, 46, 47, 48, 49, 50, 51, 52, 53, 54] [0, 43, 44, 45, 1, 2, 3, 4, 5, 6, 7, 8, 9, 46, 47, 48, 49, 50, 51, 52, 53, 54, 10, 11, 12, 13, 14, 15, 16, 17, 18, 19, 20, 21, 22, 23, 24, 25, 26, 27, 28, 29, 30, 31, 32, 33, 34, 35, 36, 37, 38, 39, 40, 41, 42] rfl rfl (by decide) (by decide) rfl (by decide) (fun H locs hP hD hS => ?_)
    clear hz2
    exact W.iret hx hb hr (fun t ht _ => ⟨⟨_, _, rfl, Option.some.inj h, by rw [ht]; exact hP, hD⟩, hS.F ht⟩) hS.2.2 dX7_readDraft_22 hlocks
  exact key s.heap [] hP hD hS
abbrev rm_X7_fault : Room := { frames := 9, cells := 0, slots := 0, locals := 193 }
set_option maxHeartbeats 4000000 in
set_option maxRecDepth 100000 in
theorem c_X7_fault (l : Launch) (D : va_G) (cyI cyZ cyT : ClassId) (adK adV : Nat → Nat) (qa : Nat → Nat) (sz : Nat) (N : Nat) (X : BX) (o : (Int32 × BX)) (hf : f_X7_fault N X = some o) : Met l yX7_fault wsX7_fault rm_X7_fault (va_Pc [.ref (qa 0)] (jMS adK adV D cyI cyZ cyT (wX cyI cyZ cyT qa X) sz)) (jQi D (va_A (wX cyI cyZ cyT qa X) sz) (fun u : BX => wX cyI cyZ cyT qa u) o) 0 0 (va_A (wX cyI cyZ cyT qa X) sz) := by
  refine Met.ofW (cc := cX7_fault) (maxL := 1) (ret := (some .int)) (by decide) rfl ?_
  intro p e s m args below meth c s₁ B hml hv
  obtain ⟨rfl, ⟨hsz, hP, hK, hD0⟩, hZ⟩ := hv
  have hx := B.exec
  have hb := B.bytes
  have hr := B.returns
  have hts := atoms_spec (ws := wsX7_fault) B.pre
  have hown : s.vm.findClass RX7 = some m.cls := findClass_of_methodNamed B.named
  have hlocks := B.notSynchronized
  subst hsz
  have hD := hD0.self (sz := s.heap.size)
  generalize hAe : va_A (wX cyI cyZ cyT qa X) s.heap.size = A at hD hZ ⊢
  have hA : ∀ q : Nat, s.heap.size ≤ q → A q := fun q h => by rw [← hAe]; exact Or.inr h
  have hS : va_S A s.heap s.heap [] := va_S.rf
  have hl := lv_entry ([.ref (qa 0)]) (n := 1) (Nat.le_of_ble_eq_true rfl)
  rw [lg_entry_eq]
  generalize (lg_sl ([.ref (qa 0)]) ++ List.replicate (1 - (lg_sl ([.ref (qa 0)])).length) Slot.unset).toArray = ls at hl ⊢
  have hl : lv_has ls 1 [(0, .ref (qa 0))] := hl
  clear B
  generalize ([.ref (qa 0)] : List Value).toArray = args at hts ⊢
  have key : ∀ (H : Heap) (locs : List Loc), va_P D vwCl (wX cyI cyZ cyT qa X) H → va_D A (wX cyI cyZ cyT qa X) → va_S A s.heap H locs → W p l e rm_X7_fault s m args below meth c H locs 0 0 (MQ below (jQi D A (fun u : BX => wX cyI cyZ cyT qa u) o) args s 0 0 A) (F0 m 0 ls []) := by
    intro H locs hP hD hS
    have h := hf
    unfold f_X7_fault at h
    refine lv_aload_n hx hb dX7_fault_0 rfl (lv_at hl 0 rfl) ?_
    obtain ⟨z1, hz1, h⟩ := jb h
    refine jgi (w1 := fun u : BX => wX cyI cyZ cyT qa u) (wn := wX cyI cyZ cyT qa z1.2) (jmVs (As := []) (rest := []) ⟨hx, hb, hml, hown, hts⟩ (c_X7_readDraft l D cyI cyZ cyT adK adV qa H.size N X z1 hz1) (cwV 0 hts gX7_fault_X7_readDraft rfl rfl rfl (by decide +kernel) ⟨Nat.le_of_ble_eq_true rfl, Nat.le_of_ble_eq_true rfl⟩) hK hP hD ((hZ.kept hS.2.1).narrow (va_free (wc := wX cyI cyZ cyT qa X) hD hS hA [0, 1, 2, 3, 4, 5, 6, 7, 8, 9, 10, 11, 12, 13, 14, 15, 16, 17, 18, 19, 20, 21, 22, 23, 24, 25, 26, 27, 28, 29, 30, 31, 32, 33, 34, 35, 36, 37, 38, 39, 40, 41, 42, 43, 44, 45, 46, 47, 48, 49, 50, 51, 52, 53, 54] rfl)) rfl 7 0 rfl rfl rfl hl.1 (Nat.le_of_ble_eq_true rfl) dX7_fault_1 ⟨Nat.le_of_ble_eq_true rfl, Nat.le_of_ble_eq_true rfl⟩) hP hD hS hA [0, 1, 2, 3, 4, 5, 6, 7, 8, 9, 10, 11, 12, 13, 14, 15, 16, 17, 18, 19, 20, 21, 22, 23, 24, 25, 26, 27, 28, 29, 30, 31, 32, 33, 34, 35, 36, 37, 38, 39, 40, 41, 42, 43, 44, 45, 46, 47, 48, 49, 50, 51, 52, 53, 54] [] [0, 1, 2, 3, 4, 5, 6, 7, 8, 9, 10, 11, 12, 13, 14, 15, 16, 17, 18, 19, 20, 21, 22, 23, 24, 25, 26, 27, 28, 29, 30, 31, 32, 33, 34, 35, 36, 37, 38, 39, 40, 41, 42, 43, 44, 45, 46, 47, 48, 49, 50, 51, 52, 53, 54] rfl rfl (by decide) (by decide) rfl (by decide) (fun H locs hP hD hS => ?_)
    clear hz1
    exact W.iret hx hb hr (fun t ht _ => ⟨⟨_, _, rfl, Option.some.inj h, by rw [ht]; exact hP, hD⟩, hS.F ht⟩) hS.2.2 dX7_fault_4 hlocks
  exact key s.heap [] hP hD hS
theorem kw_X7_house_1 : (.fieldLink RX7 19 "BellTheCat" "told" "LBellTheCat$House;" : Cond) ∈ wsX7_house := List.mem_of_getElem? (i := 1) rfl
theorem kw_X7_house_2 : (.fieldLink RX7 23 "BellTheCat" "draft" "LBellTheCat$House;" : Cond) ∈ wsX7_house := List.mem_of_getElem? (i := 2) rfl
theorem kw_X7_house_3 : (.fieldLink RX7 10 "BellTheCat" "text" "LBellTheCat$Text;" : Cond) ∈ wsX7_house := List.mem_of_getElem? (i := 3) rfl
theorem kw_X7_house_4 : (.fieldLink RX7 77 "BellTheCat$Text" "length" "I" : Cond) ∈ wsX7_house := List.mem_of_getElem? (i := 4) rfl
theorem kw_X7_house_5 : (.fieldLink RX7 29 "BellTheCat" "now" "LBellTheCat$Team;" : Cond) ∈ wsX7_house := List.mem_of_getElem? (i := 5) rfl
theorem kw_X7_house_6 : (.fieldLink RX7 89 "BellTheCat$House" "miceCount" "I" : Cond) ∈ wsX7_house := List.mem_of_getElem? (i := 6) rfl
theorem kw_X7_house_7 : (.fieldLink RX7 36 "BellTheCat" "latest" "LBellTheCat$Undo;" : Cond) ∈ wsX7_house := List.mem_of_getElem? (i := 7) rfl
theorem kw_X7_house_8 : (.fieldLink RX7 96 "BellTheCat$Undo" "depth" "I" : Cond) ∈ wsX7_house := List.mem_of_getElem? (i := 8) rfl
theorem kw_X7_house_9 : (.fieldLink RX7 51 "BellTheCat" "sightings" "LBellTheCat$Sightings;" : Cond) ∈ wsX7_house := List.mem_of_getElem? (i := 9) rfl
theorem kw_X7_house_10 : (.fieldLink RX7 99 "BellTheCat$Sightings" "size" "I" : Cond) ∈ wsX7_house := List.mem_of_getElem? (i := 10) rfl
theorem kw_X7_house_11 : (.fieldLink RX7 44 "BellTheCat" "isKept" "[Z" : Cond) ∈ wsX7_house := List.mem_of_getElem? (i := 11) rfl
theorem kw_X7_house_12 : (.fieldLink RX7 102 "BellTheCat$Text" "clauses" "I" : Cond) ∈ wsX7_house := List.mem_of_getElem? (i := 12) rfl
theorem in_X7_house_X0 : ∀ w ∈ wsX00, w ∈ wsX7_house := fun w h => List.mem_cons_of_mem _ (List.mem_append_left _ (List.mem_append_left _ (List.mem_append_left _ (List.mem_append_right _ h))))
theorem in_X7_house_X3 : ∀ w ∈ wsX30, w ∈ wsX7_house := fun w h => List.mem_cons_of_mem _ (List.mem_append_left _ (List.mem_append_right _ h))
theorem in_X7_house_X5 : ∀ w ∈ wsX50, w ∈ wsX7_house := fun w h => List.mem_cons_of_mem _ (List.mem_append_left _ (List.mem_append_left _ (List.mem_append_left _ (List.mem_append_left _ (List.mem_append_right _ h)))))
theorem in_X7_house_X6 : ∀ w ∈ wsX60, w ∈ wsX7_house := fun w h => List.mem_cons_of_mem _ (List.mem_append_left _ (List.mem_append_left _ (List.mem_append_right _ h)))
theorem in_X7_house_X7 : ∀ w ∈ wsX70, w ∈ wsX7_house := fun w h => List.mem_cons_of_mem _ (List.mem_append_left _ (List.mem_append_left _ (List.mem_append_left _ (List.mem_append_left _ (List.mem_append_left _ (List.mem_append_right _ h))))))
abbrev rm_X7_house : Room := { frames := 9, cells := 0, slots := 0, locals := 193 }
set_option maxHeartbeats 4000000 in
set_option maxRecDepth 100000 in
theorem c_X7_house (l : Launch) (D : va_G) (cyI cyZ cyT : ClassId) (adK adV : Nat → Nat) (qa : Nat → Nat) (sz : Nat) (N : Nat) (X : BX) (o : (Int32 × BX)) (hf : f_X7_house N X = some o) : Met l yX7_house wsX7_house rm_X7_house (va_Pc [.ref (qa 0)] (jMS adK adV D cyI cyZ cyT (wX cyI cyZ cyT qa X) sz)) (jQi D (va_A (wX cyI cyZ cyT qa X) sz) (fun u : BX => wX cyI cyZ cyT qa u) o) 0 0 (va_A (wX cyI cyZ cyT qa X) sz) := by
  refine Met.ofW (cc := cX7_house) (maxL := 2) (ret := (some .int)) (by decide) rfl ?_
  intro p e s m args below meth c s₁ B hml hv
  obtain ⟨rfl, ⟨hsz, hP, hK, hD0⟩, hZ⟩ := hv
  have hx := B.exec
  have hb := B.bytes
  have hr := B.returns
  have hts := atoms_spec (ws := wsX7_house) B.pre
  have hown : s.vm.findClass RX7 = some m.cls := findClass_of_methodNamed B.named
  have hlocks := B.notSynchronized
  subst hsz
  have hD := hD0.self (sz := s.heap.size)
  generalize hAe : va_A (wX cyI cyZ cyT qa X) s.heap.size = A at hD hZ ⊢
  have hA : ∀ q : Nat, s.heap.size ≤ q → A q := fun q h => by rw [← hAe]; exact Or.inr h
  have hS : va_S A s.heap s.heap [] := va_S.rf
  have hl := lv_entry ([.ref (qa 0)]) (n := 2) (Nat.le_of_ble_eq_true rfl)
  rw [lg_entry_eq]
  generalize (lg_sl ([.ref (qa 0)]) ++ List.replicate (2 - (lg_sl ([.ref (qa 0)])).length) Slot.unset).toArray = ls at hl ⊢
  have hl : lv_has ls 2 [(0, .ref (qa 0))] := hl
  clear B
  generalize ([.ref (qa 0)] : List Value).toArray = args at hts ⊢
  have key : ∀ (H : Heap) (locs : List Loc), va_P D vwCl (wX cyI cyZ cyT qa X) H → va_D A (wX cyI cyZ cyT qa X) → va_S A s.heap H locs → W p l e rm_X7_house s m args below meth c H locs 0 0 (MQ below (jQi D A (fun u : BX => wX cyI cyZ cyT qa u) o) args s 0 0 A) (F0 m 0 ls []) := by
    intro H locs hP hD hS
    have h := hf
    unfold f_X7_house at h
    refine lv_aload_n hx hb dX7_house_0 rfl (lv_at hl 0 rfl) ?_
    obtain ⟨z1, hz1, h⟩ := jb h
    refine jgi (w1 := fun u : BX => wX cyI cyZ cyT qa u) (wn := wX cyI cyZ cyT qa z1.2) (jmVs (As := []) (rest := []) ⟨hx, hb, hml, hown, hts⟩ (c_X7_readDraft l D cyI cyZ cyT adK adV qa H.size N X z1 hz1) (cwV 0 hts gX7_house_X7_readDraft rfl rfl rfl (by decide +kernel) ⟨Nat.le_of_ble_eq_true rfl, Nat.le_of_ble_eq_true rfl⟩) hK hP hD ((hZ.kept hS.2.1).narrow (va_free (wc := wX cyI cyZ cyT qa X) hD hS hA [0, 1, 2, 3, 4, 5, 6, 7, 8, 9, 10, 11, 12, 13, 14, 15, 16, 17, 18, 19, 20, 21, 22, 23, 24, 25, 26, 27, 28, 29, 30, 31, 32, 33, 34, 35, 36, 37, 38, 39, 40, 41, 42, 43, 44, 45, 46, 47, 48, 49, 50, 51, 52, 53, 54] rfl)) rfl 7 0 rfl rfl rfl hl.1 (Nat.le_of_ble_eq_true rfl) dX7_house_1 ⟨Nat.le_of_ble_eq_true rfl, Nat.le_of_ble_eq_true rfl⟩) hP hD hS hA [0, 1, 2, 3, 4, 5, 6, 7, 8, 9, 10, 11, 12, 13, 14, 15, 16, 17, 18, 19, 20, 21, 22, 23, 24, 25, 26, 27, 28, 29, 30, 31, 32, 33, 34, 35, 36, 37, 38, 39, 40, 41, 42, 43, 44, 45, 46, 47, 48, 49, 50, 51, 52, 53, 54] [] [0, 1, 2, 3, 4, 5, 6, 7, 8, 9, 10, 11, 12, 13, 14, 15, 16, 17, 18, 19, 20, 21, 22, 23, 24, 25, 26, 27, 28, 29, 30, 31, 32, 33, 34, 35, 36, 37, 38, 39, 40, 41, 42, 43, 44, 45, 46, 47, 48, 49, 50, 51, 52, 53, 54] rfl rfl (by decide) (by decide) rfl (by decide) (fun H locs hP hD hS => ?_)
    clear hz1
    refine lv_iconst (v := (-1 : Int32)) hx hb dX7_house_4 (by decide) ?_
    refine lv_icmp_eq (tgt := 11) hx hb dX7_house_5 (by decide) (fun c2 => ?_) (fun c2 => ?_)
    · have h := jt c2 h
      refine lv_aload_n hx hb dX7_house_11 rfl (lv_at hl 0 rfl) ?_
      refine va_get (D := D) (ci := 7) (v := .ref (qa 4)) (C := RX7) (T := TX7) (N := 10) hx hb hts in_X7_house_X7 hown hK.1 hP 0 rfl rfl 1 (by decide) (hts _ kw_X7_house_1) (fun _ h9 => h9) rfl dX7_house_12 ?_
      refine lv_aload_n hx hb dX7_house_15 rfl (lv_at hl 0 rfl) ?_
      refine va_get (D := D) (ci := 7) (v := .ref (qa 13)) (C := RX7) (T := TX7) (N := 10) hx hb hts in_X7_house_X7 hown hK.1 hP 0 rfl rfl 2 (by decide) (hts _ kw_X7_house_2) (fun _ h9 => h9) rfl dX7_house_16 ?_
      obtain ⟨z3, hz3, h⟩ := jb h
      refine jgv (w1 := fun u : Mo => wH cyI (fun k => qa (4 + k)) u ++ wH cyI (fun k => qa (13 + k)) (z1.2.1 2)) (wn := wX cyI cyZ cyT qa (va_up z1.2.1 1 z3, z1.2.2.1, z1.2.2.2.1, z1.2.2.2.2)) (jmV (As := [.ref (qa 13)]) (rest := []) ⟨hx, hb, hml, hown, hts⟩ (c_X0_copyFrom l D cyI cyZ cyT (fun k => qa (4 + k)) (fun k => qa (13 + k)) H.size N (z1.2.1 1) (z1.2.1 2) z3 hz3) (cwV 1 hts gX7_house_X0_copyFrom rfl rfl rfl (by decide +kernel) ⟨Nat.le_of_ble_eq_true rfl, Nat.le_of_ble_eq_true rfl⟩) hK (hP.sub (ws' := wH cyI (fun k => qa (4 + k)) (z1.2.1 1) ++ wH cyI (fun k => qa (13 + k)) (z1.2.1 2)) [4, 5, 6, 7, 8, 9, 10, 11, 12, 13, 14, 15, 16, 17, 18, 19, 20, 21] rfl) (hD.sub (ws' := wH cyI (fun k => qa (4 + k)) (z1.2.1 1) ++ wH cyI (fun k => qa (13 + k)) (z1.2.1 2)) [4, 5, 6, 7, 8, 9, 10, 11, 12, 13, 14, 15, 16, 17, 18, 19, 20, 21] (by decide) rfl) rfl 0 0 rfl rfl rfl hl.1 (Nat.le_of_ble_eq_true rfl) dX7_house_19 ⟨Nat.le_of_ble_eq_true rfl, Nat.le_of_ble_eq_true rfl⟩) hP hD hS hA [4, 5, 6, 7, 8, 9, 10, 11, 12, 13, 14, 15, 16, 17, 18, 19, 20, 21] [0, 1, 2, 3, 22, 23, 24, 25, 26, 27, 28, 29, 30, 31, 32, 33, 34, 35, 36, 37, 38, 39, 40, 41, 42, 43, 44, 45, 46, 47, 48, 49, 50, 51, 52, 53, 54] [0, 1, 2, 3, 37, 38, 39, 40, 41, 42, 43, 44, 45, 46, 47, 48, 49, 50, 51, 52, 53, 54, 4, 5, 6, 7, 8, 9, 10, 11, 12, 13, 14, 15, 16, 17, 18, 19, 20, 21, 22, 23, 24, 25, 26, 27, 28, 29, 30, 31, 32, 33, 34, 35, 36] rfl rfl (by decide) (by decide) rfl (by decide) (fun H locs hP hD hS => ?_)
      clear hz3
      refine lv_aload_n hx hb dX7_house_22 rfl (lv_at hl 0 rfl) ?_
      refine va_get (D := D) (ci := 7) (v := .ref (qa 1)) (C := RX7) (T := TX7) (N := 10) hx hb hts in_X7_house_X7 hown hK.1 hP 0 rfl rfl 0 (by decide) (hts _ kw_X7_house_3) (fun _ h9 => h9) rfl dX7_house_23 ?_
      refine lv_iconst (v := (0 : Int32)) hx hb dX7_house_26 (by decide) ?_
      refine va_put (D := D) (ci := 5) (v := .int (0 : Int32)) (ty := .int) (C := RX5) (T := TX5) (N := 6) hx hb hts in_X7_house_X5 tyX5 tyX5_ok nmX5 hown hK.1 hP hD hS 1 rfl rfl 2 (by decide) (hts _ kw_X7_house_4) (fun _ h9 => h9) rfl (tyX5_ok 2 (by decide)) rfl rfl (Nat.le_of_ble_eq_true rfl) dX7_house_27 (fun H locs hP hD hS => ?_)
      have hP : va_P D vwCl (wX cyI cyZ cyT qa (va_up (va_up z1.2.1 0 ((z1.2.1 0).1, va_up ((z1.2.1 0).2) 0 (0 : Int32))) 1 z3, z1.2.2.1, z1.2.2.2.1, z1.2.2.2.2)) H := hP
      have hD : va_D A (wX cyI cyZ cyT qa (va_up (va_up z1.2.1 0 ((z1.2.1 0).1, va_up ((z1.2.1 0).2) 0 (0 : Int32))) 1 z3, z1.2.2.1, z1.2.2.2.1, z1.2.2.2.2)) := hD
      refine lv_aload_n hx hb dX7_house_30 rfl (lv_at hl 0 rfl) ?_
      refine va_get (D := D) (ci := 7) (v := .ref (qa 22)) (C := RX7) (T := TX7) (N := 10) hx hb hts in_X7_house_X7 hown hK.1 hP 0 rfl rfl 3 (by decide) (hts _ kw_X7_house_5) (fun _ h9 => h9) rfl dX7_house_31 ?_
      refine lv_aload_n hx hb dX7_house_34 rfl (lv_at hl 0 rfl) ?_
      refine va_get (D := D) (ci := 7) (v := .ref (qa 4)) (C := RX7) (T := TX7) (N := 10) hx hb hts in_X7_house_X7 hown hK.1 hP 0 rfl rfl 1 (by decide) (hts _ kw_X7_house_1) (fun _ h9 => h9) rfl dX7_house_35 ?_
      refine va_get (D := D) (ci := 0) (v := .int (z3.2 0)) (C := RX0) (T := TX0) (N := 12) hx hb hts in_X7_house_X0 hown hK.1 hP 4 rfl rfl 8 (by decide) (hts _ kw_X7_house_6) (fun _ h9 => h9) rfl dX7_house_38 ?_
      obtain ⟨z4, hz4, h⟩ := jb h
      refine jgv (w1 := fun u : Mo => wT cyI (fun k => qa (22 + k)) u) (wn := wX cyI cyZ cyT qa (va_up (va_up (va_up z1.2.1 0 ((z1.2.1 0).1, va_up ((z1.2.1 0).2) 0 (0 : Int32))) 1 z3) 3 z4, z1.2.2.1, z1.2.2.2.1, z1.2.2.2.2)) (jmV (As := [.int (z3.2 0)]) (rest := []) ⟨hx, hb, hml, hown, hts⟩ (c_X4_begin l D cyI cyZ cyT (fun k => qa (22 + k)) H.size N (z3.2 0) (z1.2.1 3) z4 hz4) (cwV 1 hts gX7_house_X4_begin rfl rfl rfl (by decide +kernel) ⟨Nat.le_of_ble_eq_true rfl, Nat.le_of_ble_eq_true rfl⟩) hK (hP.sub (ws' := wT cyI (fun k => qa (22 + k)) (z1.2.1 3)) [22, 23] rfl) (hD.sub (ws' := wT cyI (fun k => qa (22 + k)) (z1.2.1 3)) [22, 23] (by decide) rfl) rfl 4 0 rfl rfl rfl hl.1 (Nat.le_of_ble_eq_true rfl) dX7_house_41 ⟨Nat.le_of_ble_eq_true rfl, Nat.le_of_ble_eq_true rfl⟩) hP hD hS hA [22, 23] [0, 1, 2, 3, 4, 5, 6, 7, 8, 9, 10, 11, 12, 13, 14, 15, 16, 17, 18, 19, 20, 21, 24, 25, 26, 27, 28, 29, 30, 31, 32, 33, 34, 35, 36, 37, 38, 39, 40, 41, 42, 43, 44, 45, 46, 47, 48, 49, 50, 51, 52, 53, 54] [0, 1, 2, 3, 4, 5, 6, 7, 8, 9, 10, 11, 12, 13, 14, 15, 16, 17, 18, 19, 20, 21, 53, 54, 22, 23, 24, 25, 26, 27, 28, 29, 30, 31, 32, 33, 34, 35, 36, 37, 38, 39, 40, 41, 42, 43, 44, 45, 46, 47, 48, 49, 50, 51, 52] rfl rfl (by decide) (by decide) rfl (by decide) (fun H locs hP hD hS => ?_)
      clear hz4
      refine lv_aload_n hx hb dX7_house_44 rfl (lv_at hl 0 rfl) ?_
      refine va_get (D := D) (ci := 7) (v := .ref (qa 24)) (C := RX7) (T := TX7) (N := 10) hx hb hts in_X7_house_X7 hown hK.1 hP 0 rfl rfl 4 (by decide) (hts _ kw_X7_house_7) (fun _ h9 => h9) rfl dX7_house_45 ?_
      refine lv_iconst (v := (0 : Int32)) hx hb dX7_house_48 (by decide) ?_
      refine va_put (D := D) (ci := 6) (v := .int (0 : Int32)) (ty := .int) (C := RX6) (T := TX6) (N := 3) hx hb hts in_X7_house_X6 tyX6 tyX6_ok nmX6 hown hK.1 hP hD hS 24 rfl rfl 2 (by decide) (hts _ kw_X7_house_8) (fun _ h9 => h9) rfl (tyX6_ok 2 (by decide)) rfl rfl (Nat.le_of_ble_eq_true rfl) dX7_house_49 (fun H locs hP hD hS => ?_)
      have hP : va_P D vwCl (wX cyI cyZ cyT qa (va_up (va_up (va_up (va_up z1.2.1 0 ((z1.2.1 0).1, va_up ((z1.2.1 0).2) 0 (0 : Int32))) 1 z3) 3 z4) 4 ((z1.2.1 4).1, va_up ((z1.2.1 4).2) 1 (0 : Int32)), z1.2.2.1, z1.2.2.2.1, z1.2.2.2.2)) H := hP
      have hD : va_D A (wX cyI cyZ cyT qa (va_up (va_up (va_up (va_up z1.2.1 0 ((z1.2.1 0).1, va_up ((z1.2.1 0).2) 0 (0 : Int32))) 1 z3) 3 z4) 4 ((z1.2.1 4).1, va_up ((z1.2.1 4).2) 1 (0 : Int32)), z1.2.2.1, z1.2.2.2.1, z1.2.2.2.2)) := hD
      refine lv_aload_n hx hb dX7_house_52 rfl (lv_at hl 0 rfl) ?_
      refine va_get (D := D) (ci := 7) (v := .ref (qa 48)) (C := RX7) (T := TX7) (N := 10) hx hb hts in_X7_house_X7 hown hK.1 hP 0 rfl rfl 7 (by decide) (hts _ kw_X7_house_9) (fun _ h9 => h9) rfl dX7_house_53 ?_
      refine lv_iconst (v := (0 : Int32)) hx hb dX7_house_56 (by decide) ?_
      refine va_put (D := D) (ci := 3) (v := .int (0 : Int32)) (ty := .int) (C := RX3) (T := TX3) (N := 3) hx hb hts in_X7_house_X3 tyX3 tyX3_ok nmX3 hown hK.1 hP hD hS 48 rfl rfl 2 (by decide) (hts _ kw_X7_house_10) (fun _ h9 => h9) rfl (tyX3_ok 2 (by decide)) rfl rfl (Nat.le_of_ble_eq_true rfl) dX7_house_57 (fun H locs hP hD hS => ?_)
      have hP : va_P D vwCl (wX cyI cyZ cyT qa (va_up (va_up (va_up (va_up (va_up z1.2.1 0 ((z1.2.1 0).1, va_up ((z1.2.1 0).2) 0 (0 : Int32))) 1 z3) 3 z4) 4 ((z1.2.1 4).1, va_up ((z1.2.1 4).2) 1 (0 : Int32))) 6 ((z1.2.1 6).1, va_up ((z1.2.1 6).2) 0 (0 : Int32)), z1.2.2.1, z1.2.2.2.1, z1.2.2.2.2)) H := hP
      have hD : va_D A (wX cyI cyZ cyT qa (va_up (va_up (va_up (va_up (va_up z1.2.1 0 ((z1.2.1 0).1, va_up ((z1.2.1 0).2) 0 (0 : Int32))) 1 z3) 3 z4) 4 ((z1.2.1 4).1, va_up ((z1.2.1 4).2) 1 (0 : Int32))) 6 ((z1.2.1 6).1, va_up ((z1.2.1 6).2) 0 (0 : Int32)), z1.2.2.1, z1.2.2.2.1, z1.2.2.2.2)) := hD
      refine lv_iconst (v := (0 : Int32)) hx hb dX7_house_60 (by decide) ?_
      refine lv_istore_n (lv' := [(1, .int (0 : Int32)), (0, .ref (qa 0))]) hx hb dX7_house_61 rfl hl (by decide) rfl (fun ls hl => ?_)
      obtain ⟨r5, hz5, h5_⟩ := jb h
      have hex5 : ∀ e5 : BX, r5 = e5 → ∀ (H : Heap) (locs : List Loc), va_P D vwCl (wX cyI cyZ cyT qa e5) H → va_D A (wX cyI cyZ cyT qa e5) → va_S A s.heap H locs → ∀ (ls : Array Slot), lv_has ls 2 [(0, .ref (qa 0))] → W p l e rm_X7_house s m args below meth c H locs 0 0 (MQ below (jQi D A (fun u : BX => wX cyI cyZ cyT qa u) o) args s 0 0 A) (F0 m 80 ls []) := by
        intro e5 he H locs hP hD hS ls hl
        rw [he] at h5_
        have h := h5_
        clear hz5
        refine lv_aload_n hx hb dX7_house_80 rfl (lv_at hl 0 rfl) ?_
        refine va_get (D := D) (ci := 7) (v := .ref (qa 1)) (C := RX7) (T := TX7) (N := 10) hx hb hts in_X7_house_X7 hown hK.1 hP 0 rfl rfl 0 (by decide) (hts _ kw_X7_house_3) (fun _ h9 => h9) rfl dX7_house_81 ?_
        refine va_get (D := D) (ci := 5) (v := .int ((e5.1 0).2 1)) (C := RX5) (T := TX5) (N := 6) hx hb hts in_X7_house_X5 hown hK.1 hP 1 rfl rfl 3 (by decide) (hts _ kw_X7_house_12) (fun _ h9 => h9) rfl dX7_house_84 ?_
        exact W.iret hx hb hr (fun t ht _ => ⟨⟨_, _, rfl, Option.some.inj h, by rw [ht]; exact hP, hD⟩, hS.F ht⟩) hS.2.2 dX7_house_87 hlocks
      have hlp5 : ∀ (nn : Nat) (z5 : (Int32 × BX)), jw (X7_house_s62) nn z5 = some r5 → ∀ (H : Heap) (locs : List Loc), va_P D vwCl (wX cyI cyZ cyT qa z5.2) H → va_D A (wX cyI cyZ cyT qa z5.2) → va_S A s.heap H locs → ∀ (ls : Array Slot), lv_has ls 2 [(0, .ref (qa 0)), (1, .int z5.1)] → W p l e rm_X7_house s m args below meth c H locs 0 0 (MQ below (jQi D A (fun u : BX => wX cyI cyZ cyT qa u) o) args s 0 0 A) (F0 m 62 ls []) := by
        refine jw_P (r := r5) (P := fun z5 : (Int32 × BX) => ∀ (H : Heap) (locs : List Loc), va_P D vwCl (wX cyI cyZ cyT qa z5.2) H → va_D A (wX cyI cyZ cyT qa z5.2) → va_S A s.heap H locs → ∀ (ls : Array Slot), lv_has ls 2 [(0, .ref (qa 0)), (1, .int z5.1)] → W p l e rm_X7_house s m args below meth c H locs 0 0 (MQ below (jQi D A (fun u : BX => wX cyI cyZ cyT qa u) o) args s 0 0 A) (F0 m 62 ls [])) ?_
        intro z5 x5 h hin hout H locs hP hD hS ls hl
        unfold X7_house_s62 at h
        refine lv_iload_n hx hb dX7_house_62 rfl (lv_at hl 1 rfl) ?_
        refine lv_iconst (v := (2 : Int32)) hx hb dX7_house_63 (by decide) ?_
        refine lv_icmp_ge (tgt := 80) hx hb dX7_house_64 (by decide) (fun c6 => ?_) (fun c6 => ?_)
        · have h := jt c6 h
          exact hex5 _ (hout _ (Option.some.inj h).symm).symm H locs hP hD hS ls (lv_sub hl [0] rfl)
        · have h := jf c6 h
          refine lv_aload_n hx hb dX7_house_67 rfl (lv_at hl 0 rfl) ?_
          refine va_get (D := D) (ci := 7) (v := .ref (qa 43)) (C := RX7) (T := TX7) (N := 10) hx hb hts in_X7_house_X7 hown hK.1 hP 0 rfl rfl 6 (by decide) (hts _ kw_X7_house_11) (fun _ h9 => h9) rfl dX7_house_68 ?_
          refine lv_iload_n hx hb dX7_house_71 rfl (lv_at hl 1 rfl) ?_
          refine lv_iconst (v := (0 : Int32)) hx hb dX7_house_72 (by decide) ?_
          obtain ⟨g7, h⟩ := jn h
          refine jzst (w' := wX cyI cyZ cyT qa (va_up z5.2.1 5 (va_up ((z5.2.1 5).1) 0 (upd ((z5.2.1 5).1 0) z5.1.toNatClampNeg (0 : Int32)), (z5.2.1 5).2), z5.2.2.1, z5.2.2.2.1, z5.2.2.2.2)) hx hb hK hP hD hS 43 rfl (by decide) _ rfl g7 rfl dX7_house_73 (fun H locs hP hD hS => ?_)
          refine lv_iinc (v := z5.1 + (1 : Int32)) (lv' := [(1, .int (z5.1 + (1 : Int32))), (0, .ref (qa 0))]) hx hb dX7_house_74 hl (k := 1) rfl rfl (by decide) rfl (fun ls hl => ?_)
          refine lv_goto (tgt := 62) hx hb dX7_house_77 (by decide) ?_
          exact hin _ (Option.some.inj h).symm H locs hP hD hS ls (lv_sub hl [1, 0] rfl)
      exact hlp5 _ _ hz5 H locs hP hD hS ls (lv_sub hl [1, 0] rfl)
    · have h := jf c2 h
      refine lv_bipush (v := (-4 : Int32)) hx hb dX7_house_8 (by decide) ?_
      exact W.iret hx hb hr (fun t ht _ => ⟨⟨_, _, rfl, Option.some.inj h, by rw [ht]; exact hP, hD⟩, hS.F ht⟩) hS.2.2 dX7_house_10 hlocks
  exact key s.heap [] hP hD hS

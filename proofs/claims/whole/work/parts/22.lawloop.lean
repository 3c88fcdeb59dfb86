set_option maxHeartbeats 4000000 in
set_option maxRecDepth 100000 in
theorem law_loop {p : Program} {l : Launch} {e : Env} {s : State} {m : MethodId} {below : List Frame} {meth : Method} {c : Code} {D : va_G} {cyI cyZ cyT : ClassId} {adK adV qa qb : Nat → Nat} {b L : Nat} {xs : Nat → Int32} {N : Nat} {Rel : BX → Mo → Prop} (hL : L ≤ 3072) (C0 : lw_At p s m meth c b L xs) (hK : jK D cyI cyZ cyT s) (hZ : jStr adK adV (fun q : Nat => s.heap.size ≤ q) s s.heap) (hAll : jAll N Rel) :
    ∀ (n j : Nat) (x3 : Int32), L + 1 ≤ j + n → j ≤ 3080 → x3 = nI j → ∀ (X : BX) (M : Mo), Rel X M → ∀ (H : Heap) (locs : List Loc), va_P D vwCl (wX cyI cyZ cyT qa X ++ wM cyI cyZ qb M) H → va_D (fun q : Nat => s.heap.size ≤ q) (wX cyI cyZ cyT qa X ++ wM cyI cyZ qb M) → va_S (fun q : Nat => s.heap.size ≤ q) s.heap H locs → ∀ (ls : Array Slot), lv_has ls 4 [(0, .ref b), (1, .ref (qa 0)), (2, .ref (qb 0)), (3, .int x3)] → W p l e room_1 s m #[Value.ref b] below meth c H locs 69 819 (lw_Z below #[Value.ref b] s) (F0 m 18 ls []) := by
  obtain ⟨h_write, h_erase, h_fault, h_house, h_mouse, h_step, h_rat, h_as, h_danger, h_put, h_clear, h_night, h_undo, h_keep, h_back, h_through, h_fails, h_loss, h_best, h_bestOf, h_drawn, h_alone, h_dread, h_hires, h_rests, h_fund, h_rats, h_shoe, h_callOff, h_seen, h_forget, h_teams, h_teamOf, h_count⟩ := hAll
  have C1 := C0
  obtain ⟨hx, hb, hr, hml, hown, hts, hX, hbl, hlocks, hgv⟩ := C0
  have hA : ∀ q : Nat, s.heap.size ≤ q → (fun q : Nat => s.heap.size ≤ q) q := fun _ h => h
  have hbA : ¬ (fun q : Nat => s.heap.size ≤ q) b := Nat.not_le.mpr hbl
  intro n
  induction n with
  | zero =>
    intro j x3 h1 h2 h3 X M hRel H locs hP hD hS ls hl
    refine lv_iload_n hx hb dL_law_18 rfl (lv_at hl 3 rfl) ?_
    refine lv_aload_n hx hb dL_law_19 rfl (lv_at hl 0 rfl) ?_
    refine va_slen hx hb hX hbl hbA hS dL_law_20 ?_
    refine lv_bipush (v := 6) hx hb dL_law_21 (by decide) ?_
    refine lv_isub hx hb dL_law_23 ?_
    refine lv_icmp_gt (tgt := 1104) hx hb dL_law_24 (by decide) (fun c1 => ?_) (fun c1 => ?_)
    · refine lv_iconst (v := 1) hx hb dL_law_1104 (by decide) ?_
      refine va_forget (fun q hq => hS.2.2 q hq) ?_
      refine W.widen (k := 600000) (n := 7302250) (Nat.le_of_ble_eq_true rfl) (Nat.le_of_ble_eq_true rfl) ?_
      exact lw_ret hx hb hr hlocks dL_law_1105
    · exact absurd (jlaw_gt hL h2 h3 (by omega)) c1
  | succ n ih =>
    intro j x3 h1 h2 h3 X M hRel H locs hP hD hS ls hl
    refine lv_iload_n hx hb dL_law_18 rfl (lv_at hl 3 rfl) ?_
    refine lv_aload_n hx hb dL_law_19 rfl (lv_at hl 0 rfl) ?_
    refine va_slen hx hb hX hbl hbA hS dL_law_20 ?_
    refine lv_bipush (v := 6) hx hb dL_law_21 (by decide) ?_
    refine lv_isub hx hb dL_law_23 ?_
    refine lv_icmp_gt (tgt := 1104) hx hb dL_law_24 (by decide) (fun c1 => ?_) (fun c1 => ?_)
    · refine lv_iconst (v := 1) hx hb dL_law_1104 (by decide) ?_
      refine va_forget (fun q hq => hS.2.2 q hq) ?_
      refine W.widen (k := 600000) (n := 7302250) (Nat.le_of_ble_eq_true rfl) (Nat.le_of_ble_eq_true rfl) ?_
      exact lw_ret hx hb hr hlocks dL_law_1105
    · have hj : j + 6 ≤ L := jlaw_le hL h2 h3 c1
      have hin : ∀ k : Int32, k ≤ 5 → ¬ k < 0 → vp_in (x3 + k) L := jlaw_in hL h3 hj
      have hin0 : vp_in x3 L := by rw [h3]; exact vp_in_nI (by omega) (by omega)
      have hk : ∀ (X : BX) (M : Mo), Rel X M → ∀ (H : Heap) (locs : List Loc), va_P D vwCl (wX cyI cyZ cyT qa X ++ wM cyI cyZ qb M) H → va_D (fun q : Nat => s.heap.size ≤ q) (wX cyI cyZ cyT qa X ++ wM cyI cyZ qb M) → va_S (fun q : Nat => s.heap.size ≤ q) s.heap H locs → ∀ (ls : Array Slot), lv_has ls 4 [(0, .ref b), (1, .ref (qa 0)), (2, .ref (qb 0)), (3, .int x3)] → W p l e room_1 s m #[Value.ref b] below meth c H locs 69 819 (lw_Z below #[Value.ref b] s) (F0 m 1098 ls []) := by
        intro X M hRel H locs hP hD hS ls hl
        refine lv_iinc (v := x3 + 6) (lv' := [(3, .int (x3 + 6)), (0, .ref b), (1, .ref (qa 0)), (2, .ref (qb 0))]) hx hb dL_law_1098 hl (k := 3) rfl rfl (by decide) rfl (fun ls hl => ?_)
        refine lv_goto (tgt := 18) hx hb dL_law_1101 (by decide) ?_
        exact ih (j + 6) (x3 + 6) (by omega) (by omega) (by rw [h3]; exact nI_add j 6) X M hRel H locs hP hD hS ls (lv_sub hl [1, 2, 3, 0] rfl)
      refine lv_aload_n hx hb dL_law_27 rfl (lv_at hl 0 rfl) ?_
      refine lv_iload_n hx hb dL_law_28 rfl (lv_at hl 3 rfl) ?_
      refine va_sld hx hb hX hbl hbA hS hin0 dL_law_29 ?_
      refine lv_bipush (v := 63) hx hb dL_law_30 (by decide) ?_
      refine lv_iand hx hb dL_law_32 ?_
      generalize xs x3.toNatClampNeg &&& 63 = v
      by_cases c0_ : v = (0 : Int32)
      · refine lv_tableIn (off := 151) (tgt := 184) hx hb dL_law_33 (by rw [c0_]; decide) (by rw [c0_]; decide) (by rw [c0_]; rfl) (by decide) ?_
        exact law_write (N := N) C1 hK hZ x3 hin h_write hk X M hRel H locs hP hD hS ls hl
      by_cases c1_ : v = (1 : Int32)
      · refine lv_tableIn (off := 174) (tgt := 207) hx hb dL_law_33 (by rw [c1_]; decide) (by rw [c1_]; decide) (by rw [c1_]; rfl) (by decide) ?_
        exact law_erase (N := N) C1 hK hZ x3 hin h_erase hk X M hRel H locs hP hD hS ls hl
      by_cases c2_ : v = (2 : Int32)
      · refine lv_tableIn (off := 187) (tgt := 220) hx hb dL_law_33 (by rw [c2_]; decide) (by rw [c2_]; decide) (by rw [c2_]; rfl) (by decide) ?_
        exact law_fault (N := N) C1 hK hZ x3 hin h_fault hk X M hRel H locs hP hD hS ls hl
      by_cases c3_ : v = (3 : Int32)
      · refine lv_tableIn (off := 200) (tgt := 233) hx hb dL_law_33 (by rw [c3_]; decide) (by rw [c3_]; decide) (by rw [c3_]; rfl) (by decide) ?_
        exact law_house (N := N) C1 hK hZ x3 hin h_house hk X M hRel H locs hP hD hS ls hl
      by_cases c4_ : v = (4 : Int32)
      · refine lv_tableIn (off := 213) (tgt := 246) hx hb dL_law_33 (by rw [c4_]; decide) (by rw [c4_]; decide) (by rw [c4_]; rfl) (by decide) ?_
        exact law_mouse (N := N) C1 hK hZ x3 hin h_mouse hk X M hRel H locs hP hD hS ls hl
      by_cases c5_ : v = (5 : Int32)
      · refine lv_tableIn (off := 246) (tgt := 279) hx hb dL_law_33 (by rw [c5_]; decide) (by rw [c5_]; decide) (by rw [c5_]; rfl) (by decide) ?_
        exact law_step (N := N) C1 hK hZ x3 hin h_step hk X M hRel H locs hP hD hS ls hl
      by_cases c6_ : v = (6 : Int32)
      · refine lv_tableIn (off := 279) (tgt := 312) hx hb dL_law_33 (by rw [c6_]; decide) (by rw [c6_]; decide) (by rw [c6_]; rfl) (by decide) ?_
        exact law_rat (N := N) C1 hK hZ x3 hin h_rat hk X M hRel H locs hP hD hS ls hl
      by_cases c7_ : v = (7 : Int32)
      · refine lv_tableIn (off := 312) (tgt := 345) hx hb dL_law_33 (by rw [c7_]; decide) (by rw [c7_]; decide) (by rw [c7_]; rfl) (by decide) ?_
        exact law_as (N := N) C1 hK hZ x3 hin h_as hk X M hRel H locs hP hD hS ls hl
      by_cases c8_ : v = (8 : Int32)
      · refine lv_tableIn (off := 345) (tgt := 378) hx hb dL_law_33 (by rw [c8_]; decide) (by rw [c8_]; decide) (by rw [c8_]; rfl) (by decide) ?_
        exact law_danger (N := N) C1 hK hZ x3 hin h_danger hk X M hRel H locs hP hD hS ls hl
      by_cases c9_ : v = (9 : Int32)
      · refine lv_tableIn (off := 378) (tgt := 411) hx hb dL_law_33 (by rw [c9_]; decide) (by rw [c9_]; decide) (by rw [c9_]; rfl) (by decide) ?_
        exact law_put (N := N) C1 hK hZ x3 hin h_put hk X M hRel H locs hP hD hS ls hl
      by_cases c10_ : v = (10 : Int32)
      · refine lv_tableIn (off := 411) (tgt := 444) hx hb dL_law_33 (by rw [c10_]; decide) (by rw [c10_]; decide) (by rw [c10_]; rfl) (by decide) ?_
        exact law_clear (N := N) C1 hK hZ x3 hin h_clear hk X M hRel H locs hP hD hS ls hl
      by_cases c11_ : v = (11 : Int32)
      · refine lv_tableIn (off := 424) (tgt := 457) hx hb dL_law_33 (by rw [c11_]; decide) (by rw [c11_]; decide) (by rw [c11_]; rfl) (by decide) ?_
        exact law_night (N := N) C1 hK hZ x3 hin h_night hk X M hRel H locs hP hD hS ls hl
      by_cases c12_ : v = (12 : Int32)
      · refine lv_tableIn (off := 447) (tgt := 480) hx hb dL_law_33 (by rw [c12_]; decide) (by rw [c12_]; decide) (by rw [c12_]; rfl) (by decide) ?_
        exact law_undo (N := N) C1 hK hZ x3 hin h_undo hk X M hRel H locs hP hD hS ls hl
      by_cases c13_ : v = (13 : Int32)
      · refine lv_tableIn (off := 460) (tgt := 493) hx hb dL_law_33 (by rw [c13_]; decide) (by rw [c13_]; decide) (by rw [c13_]; rfl) (by decide) ?_
        exact law_keep (N := N) C1 hK hZ x3 hin h_keep hk X M hRel H locs hP hD hS ls hl
      by_cases c14_ : v = (14 : Int32)
      · refine lv_tableIn (off := 483) (tgt := 516) hx hb dL_law_33 (by rw [c14_]; decide) (by rw [c14_]; decide) (by rw [c14_]; rfl) (by decide) ?_
        exact law_back (N := N) C1 hK hZ x3 hin h_back hk X M hRel H locs hP hD hS ls hl
      by_cases c15_ : v = (15 : Int32)
      · refine lv_tableIn (off := 506) (tgt := 539) hx hb dL_law_33 (by rw [c15_]; decide) (by rw [c15_]; decide) (by rw [c15_]; rfl) (by decide) ?_
        exact law_through (N := N) C1 hK hZ x3 hin h_through hk X M hRel H locs hP hD hS ls hl
      by_cases c16_ : v = (16 : Int32)
      · refine lv_tableIn (off := 529) (tgt := 562) hx hb dL_law_33 (by rw [c16_]; decide) (by rw [c16_]; decide) (by rw [c16_]; rfl) (by decide) ?_
        exact law_fails (N := N) C1 hK hZ x3 hin h_fails hk X M hRel H locs hP hD hS ls hl
      by_cases c17_ : v = (17 : Int32)
      · refine lv_tableIn (off := 562) (tgt := 595) hx hb dL_law_33 (by rw [c17_]; decide) (by rw [c17_]; decide) (by rw [c17_]; rfl) (by decide) ?_
        exact law_loss (N := N) C1 hK hZ x3 hin h_loss hk X M hRel H locs hP hD hS ls hl
      by_cases c18_ : v = (18 : Int32)
      · refine lv_tableIn (off := 585) (tgt := 618) hx hb dL_law_33 (by rw [c18_]; decide) (by rw [c18_]; decide) (by rw [c18_]; rfl) (by decide) ?_
        exact law_best (N := N) C1 hK hZ x3 hin h_best hk X M hRel H locs hP hD hS ls hl
      by_cases c19_ : v = (19 : Int32)
      · refine lv_tableIn (off := 608) (tgt := 641) hx hb dL_law_33 (by rw [c19_]; decide) (by rw [c19_]; decide) (by rw [c19_]; rfl) (by decide) ?_
        exact law_bestOf (N := N) C1 hK hZ x3 hin h_bestOf hk X M hRel H locs hP hD hS ls hl
      by_cases c20_ : v = (20 : Int32)
      · refine lv_tableIn (off := 631) (tgt := 664) hx hb dL_law_33 (by rw [c20_]; decide) (by rw [c20_]; decide) (by rw [c20_]; rfl) (by decide) ?_
        exact law_drawn (N := N) C1 hK hZ x3 hin h_drawn hk X M hRel H locs hP hD hS ls hl
      by_cases c21_ : v = (21 : Int32)
      · refine lv_tableIn (off := 664) (tgt := 697) hx hb dL_law_33 (by rw [c21_]; decide) (by rw [c21_]; decide) (by rw [c21_]; rfl) (by decide) ?_
        exact law_alone (N := N) C1 hK hZ x3 hin h_alone hk X M hRel H locs hP hD hS ls hl
      by_cases c22_ : v = (22 : Int32)
      · refine lv_tableIn (off := 697) (tgt := 730) hx hb dL_law_33 (by rw [c22_]; decide) (by rw [c22_]; decide) (by rw [c22_]; rfl) (by decide) ?_
        exact law_dread (N := N) C1 hK hZ x3 hin h_dread hk X M hRel H locs hP hD hS ls hl
      by_cases c23_ : v = (23 : Int32)
      · refine lv_tableIn (off := 730) (tgt := 763) hx hb dL_law_33 (by rw [c23_]; decide) (by rw [c23_]; decide) (by rw [c23_]; rfl) (by decide) ?_
        exact law_hires (N := N) C1 hK hZ x3 hin h_hires hk X M hRel H locs hP hD hS ls hl
      by_cases c24_ : v = (24 : Int32)
      · refine lv_tableIn (off := 753) (tgt := 786) hx hb dL_law_33 (by rw [c24_]; decide) (by rw [c24_]; decide) (by rw [c24_]; rfl) (by decide) ?_
        exact law_rests (N := N) C1 hK hZ x3 hin h_rests hk X M hRel H locs hP hD hS ls hl
      by_cases c25_ : v = (25 : Int32)
      · refine lv_tableIn (off := 786) (tgt := 819) hx hb dL_law_33 (by rw [c25_]; decide) (by rw [c25_]; decide) (by rw [c25_]; rfl) (by decide) ?_
        exact law_fund (N := N) C1 hK hZ x3 hin h_fund hk X M hRel H locs hP hD hS ls hl
      by_cases c26_ : v = (26 : Int32)
      · refine lv_tableIn (off := 799) (tgt := 832) hx hb dL_law_33 (by rw [c26_]; decide) (by rw [c26_]; decide) (by rw [c26_]; rfl) (by decide) ?_
        exact law_rats (N := N) C1 hK hZ x3 hin h_rats hk X M hRel H locs hP hD hS ls hl
      by_cases c27_ : v = (27 : Int32)
      · refine lv_tableIn (off := 822) (tgt := 855) hx hb dL_law_33 (by rw [c27_]; decide) (by rw [c27_]; decide) (by rw [c27_]; rfl) (by decide) ?_
        exact law_shoe (N := N) C1 hK hZ x3 hin h_shoe hk X M hRel H locs hP hD hS ls hl
      by_cases c28_ : v = (28 : Int32)
      · refine lv_tableIn (off := 886) (tgt := 919) hx hb dL_law_33 (by rw [c28_]; decide) (by rw [c28_]; decide) (by rw [c28_]; rfl) (by decide) ?_
        exact law_callOff (N := N) C1 hK hZ x3 hin h_callOff hk X M hRel H locs hP hD hS ls hl
      by_cases c29_ : v = (29 : Int32)
      · refine lv_tableIn (off := 950) (tgt := 983) hx hb dL_law_33 (by rw [c29_]; decide) (by rw [c29_]; decide) (by rw [c29_]; rfl) (by decide) ?_
        exact law_seen (N := N) C1 hK hZ x3 hin h_seen hk X M hRel H locs hP hD hS ls hl
      by_cases c30_ : v = (30 : Int32)
      · refine lv_tableIn (off := 983) (tgt := 1016) hx hb dL_law_33 (by rw [c30_]; decide) (by rw [c30_]; decide) (by rw [c30_]; rfl) (by decide) ?_
        exact law_forget (N := N) C1 hK hZ x3 hin h_forget hk X M hRel H locs hP hD hS ls hl
      by_cases c31_ : v = (31 : Int32)
      · refine lv_tableIn (off := 996) (tgt := 1029) hx hb dL_law_33 (by rw [c31_]; decide) (by rw [c31_]; decide) (by rw [c31_]; rfl) (by decide) ?_
        exact law_teams (N := N) C1 hK hZ x3 hin h_teams hk X M hRel H locs hP hD hS ls hl
      by_cases c32_ : v = (32 : Int32)
      · refine lv_tableIn (off := 1019) (tgt := 1052) hx hb dL_law_33 (by rw [c32_]; decide) (by rw [c32_]; decide) (by rw [c32_]; rfl) (by decide) ?_
        exact law_teamOf (N := N) C1 hK hZ x3 hin h_teamOf hk X M hRel H locs hP hD hS ls hl
      by_cases c33_ : v = (33 : Int32)
      · refine lv_tableIn (off := 1042) (tgt := 1075) hx hb dL_law_33 (by rw [c33_]; decide) (by rw [c33_]; decide) (by rw [c33_]; rfl) (by decide) ?_
        exact law_count (N := N) C1 hK hZ x3 hin h_count hk X M hRel H locs hP hD hS ls hl
      refine lv_tableOut (tgt := 1098) hx hb dL_law_33 (by have d0 := jne (z := 0) rfl c0_; have d1 := jne (z := 1) rfl c1_; have d2 := jne (z := 2) rfl c2_; have d3 := jne (z := 3) rfl c3_; have d4 := jne (z := 4) rfl c4_; have d5 := jne (z := 5) rfl c5_; have d6 := jne (z := 6) rfl c6_; have d7 := jne (z := 7) rfl c7_; have d8 := jne (z := 8) rfl c8_; have d9 := jne (z := 9) rfl c9_; have d10 := jne (z := 10) rfl c10_; have d11 := jne (z := 11) rfl c11_; have d12 := jne (z := 12) rfl c12_; have d13 := jne (z := 13) rfl c13_; have d14 := jne (z := 14) rfl c14_; have d15 := jne (z := 15) rfl c15_; have d16 := jne (z := 16) rfl c16_; have d17 := jne (z := 17) rfl c17_; have d18 := jne (z := 18) rfl c18_; have d19 := jne (z := 19) rfl c19_; have d20 := jne (z := 20) rfl c20_; have d21 := jne (z := 21) rfl c21_; have d22 := jne (z := 22) rfl c22_; have d23 := jne (z := 23) rfl c23_; have d24 := jne (z := 24) rfl c24_; have d25 := jne (z := 25) rfl c25_; have d26 := jne (z := 26) rfl c26_; have d27 := jne (z := 27) rfl c27_; have d28 := jne (z := 28) rfl c28_; have d29 := jne (z := 29) rfl c29_; have d30 := jne (z := 30) rfl c30_; have d31 := jne (z := 31) rfl c31_; have d32 := jne (z := 32) rfl c32_; have d33 := jne (z := 33) rfl c33_; omega) (by decide) ?_
      exact hk X M hRel H locs hP hD hS ls hl

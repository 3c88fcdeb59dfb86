set_option maxHeartbeats 4000000 in
set_option maxRecDepth 100000 in
theorem whole_start {p : Program} {e : Env} {s : State} {m : MethodId} {below : List Frame} {meth : Method} {c : Code} (l : Launch) (hflags : l.flags = flags0) {b L : Nat} {xs : Nat → Int32} (hL : L ≤ 3072) (C0 : lw_At p s m meth c b L xs) : W p l e room_1 s m #[Value.ref b] below meth c s.heap [] 0 0 (lw_Z below #[Value.ref b] s) (entryFrame m ([Value.ref b] : List Value).toArray 4) := by
  have C1 := C0
  obtain ⟨hx, hb, hr, hml, hown, hts0, hX, hbl, hlocks, hgv⟩ := C0
  have hts : ∀ w ∈ wsL_law, w.before #[Value.ref b] s = true := fun w h => hts0 w (wsL_law_in w h)
  have m1 : ∀ w ∈ wsL_law_r1, w.before #[Value.ref b] s = true := fun w h => hts0 w (lwc_wsL_law_r1 w h)
  have m4 : ∀ w ∈ wsL_law_r4, w.before #[Value.ref b] s = true := fun w h => hts0 w (lwc_wsL_law_r4 w h)
  have hA : ∀ q : Nat, s.heap.size ≤ q → (fun q : Nat => s.heap.size ≤ q) q := fun _ h => h
  obtain ⟨D, cyI, cyZ, cyT, hK⟩ := jK_ex hts0
  obtain ⟨adK, adV, hZ⟩ := jStr_ex hts0 hgv
  obtain ⟨z, hz, hRel⟩ := Rel0 (N := 8000) (Nat.le_refl _)
  have hS : va_S (fun q : Nat => s.heap.size ≤ q) s.heap s.heap [] := va_S.rf
  have hP : va_P D vwCl [] s.heap := jP0
  have hD : va_D (fun q : Nat => s.heap.size ≤ q) [] := ⟨fun i j p q h => by simp at h, fun k q h => by simp at h⟩
  have hl := lv_entry ([.ref b]) (n := 4) (Nat.le_of_ble_eq_true rfl)
  rw [lg_entry_eq]
  generalize (lg_sl ([.ref b]) ++ List.replicate (4 - (lg_sl ([.ref b])).length) Slot.unset).toArray = ls at hl ⊢
  have hl : lv_has ls 4 [(0, .ref b)] := hl
  refine va_new (ci := 7) (fs := [.null, .null, .null, .null, .null, .null, .null, .null, .null, .null]) (C := RX7) (T := TX7) (N := 10) hx hb hts inlX7 tyX7 tyX7_ok hown (m1 (.classLink RL 7 RX7) (List.mem_of_getElem? (i := 0) rfl)) (m1 (.instantiable RX7 10) (List.mem_of_getElem? (i := 1) rfl)) (m1 (.initialized RX7) (List.mem_of_getElem? (i := 2) rfl)) hK.1 hP hD hS hA rfl (fun j hj => by rcases (show j = 0 ∨ j = 1 ∨ j = 2 ∨ j = 3 ∨ j = 4 ∨ j = 5 ∨ j = 6 ∨ j = 7 ∨ j = 8 ∨ j = 9 by omega) with rfl | rfl | rfl | rfl | rfl | rfl | rfl | rfl | rfl | rfl <;> rfl) (Nat.le_of_ble_eq_true rfl) (Nat.le_of_ble_eq_true rfl) dL_law_0 (fun qx H hP hD hS => ?_)
  refine W.widen (k := 1) (n := 10) (by omega) (by omega) ?_
  refine lv_dup hx hb dL_law_3 rfl ?_
  refine jinitR (w1 := fun u : Nat → Nat => wX cyI cyZ cyT u (bx0 z)) (jmI (As := []) (rest := [.ref qx]) ⟨hx, hb, hml, hown, hts⟩ (c_X7_init l D cyI cyZ cyT qx H.size 8000 z hz) (cwI 0 hts gL_law_X7_init rfl rfl rfl (m1 (.initialized RX7) (List.mem_of_getElem? (i := 2) rfl)) (m1 (.methodLink RL 9 yX7_init) (List.mem_of_getElem? (i := 6) rfl)) (m1 (.instanceMethod yX7_init) (List.mem_of_getElem? (i := 7) rfl)) rfl (by decide +kernel) ⟨Nat.le_of_ble_eq_true rfl, Nat.le_of_ble_eq_true rfl⟩) hK (jPr hP) (jDr hD) rfl rfl hl.1 (Nat.le_of_ble_eq_true rfl) dL_law_4 ⟨Nat.le_of_ble_eq_true rfl, Nat.le_of_ble_eq_true rfl⟩) hP hD hS hA (fun qa Hx locx ha hPx hDx hSx => ?_)
  subst ha
  refine W.widen (k := 55) (n := 433) (by omega) (by omega) ?_
  have hP : va_P D vwCl (wX cyI cyZ cyT qa (bx0 z)) Hx := hPx
  have hD : va_D (fun q : Nat => s.heap.size ≤ q) (wX cyI cyZ cyT qa (bx0 z)) := hDx
  have hS := hSx
  refine lv_astore_n (lv' := [(1, .ref (qa 0)), (0, .ref b)]) hx hb dL_law_7 rfl hl (by decide) rfl (fun ls hl => ?_)
  refine va_new (ci := 8) (fs := [.int 0, .null, .int 0, .int 0, .int 0, .int 0, .int 0, .int 0, .int 0, .int 0, .null, .null, .null, .null, .null, .null, .int 0, .null, .null, .null, .null, .int 0, .null, .null]) (C := RX8) (T := TX8) (N := 24) hx hb hts inlX8 tyX8 tyX8_ok hown (m1 (.classLink RL 10 RX8) (List.mem_of_getElem? (i := 3) rfl)) (m1 (.instantiable RX8 24) (List.mem_of_getElem? (i := 4) rfl)) (m1 (.initialized RX8) (List.mem_of_getElem? (i := 5) rfl)) hK.1 hP hD hS hA rfl (fun j hj => by rcases (show j = 0 ∨ j = 1 ∨ j = 2 ∨ j = 3 ∨ j = 4 ∨ j = 5 ∨ j = 6 ∨ j = 7 ∨ j = 8 ∨ j = 9 ∨ j = 10 ∨ j = 11 ∨ j = 12 ∨ j = 13 ∨ j = 14 ∨ j = 15 ∨ j = 16 ∨ j = 17 ∨ j = 18 ∨ j = 19 ∨ j = 20 ∨ j = 21 ∨ j = 22 ∨ j = 23 by omega) with rfl | rfl | rfl | rfl | rfl | rfl | rfl | rfl | rfl | rfl | rfl | rfl | rfl | rfl | rfl | rfl | rfl | rfl | rfl | rfl | rfl | rfl | rfl | rfl <;> rfl) (Nat.le_of_ble_eq_true rfl) (Nat.le_of_ble_eq_true rfl) dL_law_8 (fun qm H hP hD hS => ?_)
  refine W.widen (k := 56) (n := 457) (by omega) (by omega) ?_
  refine lv_dup hx hb dL_law_11 rfl ?_
  refine jinitR (w1 := fun u : Nat → Nat => wM cyI cyZ u mod0) (jmI (As := []) (rest := [.ref qm]) ⟨hx, hb, hml, hown, hts⟩ (c_X8_init l D cyI cyZ cyT qm H.size) (cwI 0 hts gL_law_X8_init rfl rfl rfl (m1 (.initialized RX8) (List.mem_of_getElem? (i := 5) rfl)) (m4 (.methodLink RL 12 yX8_init) (List.mem_of_getElem? (i := 19) rfl)) (m4 (.instanceMethod yX8_init) (List.mem_of_getElem? (i := 20) rfl)) rfl (by decide +kernel) ⟨Nat.le_of_ble_eq_true rfl, Nat.le_of_ble_eq_true rfl⟩) hK (jPr hP) (jDr hD) rfl rfl hl.1 (Nat.le_of_ble_eq_true rfl) dL_law_12 ⟨Nat.le_of_ble_eq_true rfl, Nat.le_of_ble_eq_true rfl⟩) hP hD hS hA (fun qb Hm locm hb0 hPm hDm hSm => ?_)
  subst hb0
  refine W.widen (k := 69) (n := 819) (by omega) (by omega) ?_
  refine lv_astore_n (lv' := [(2, .ref (qb 0)), (1, .ref (qa 0)), (0, .ref b)]) hx hb dL_law_15 rfl hl (by decide) rfl (fun ls hl => ?_)
  refine lv_iconst (v := 0) hx hb dL_law_16 (by decide) ?_
  refine lv_istore_n (lv' := [(3, .int 0), (2, .ref (qb 0)), (1, .ref (qa 0)), (0, .ref b)]) hx hb dL_law_17 rfl hl (by decide) rfl (fun ls hl => ?_)
  exact law_loop (N := 8000) hL C1 hK hZ (all_calls (Nat.le_refl _)) (L + 1) 0 0 (by omega) (by omega) nI_0.symm (bx0 z) mod0 hRel Hm locm hPm hDm hSm ls (lv_sub hl [3, 2, 1, 0] rfl)

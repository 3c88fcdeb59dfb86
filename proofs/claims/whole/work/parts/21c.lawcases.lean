set_option maxHeartbeats 4000000 in
set_option maxRecDepth 100000 in
theorem law_put {p : Program} {l : Launch} {e : Env} {s : State} {m : MethodId} {below : List Frame} {meth : Method} {c : Code} {D : va_G} {cyI cyZ cyT : ClassId} {adK adV qa qb : Nat → Nat} {b L : Nat} {xs : Nat → Int32} {N : Nat} {Rel : BX → Mo → Prop} (C0 : lw_At p s m meth c b L xs) (hK : jK D cyI cyZ cyT s) (hZ : jStr adK adV (fun q : Nat => s.heap.size ≤ q) s s.heap) (x3 : Int32) (hin : ∀ k : Int32, k ≤ 5 → ¬ k < 0 → vp_in (x3 + k) L) (hR : ∀ (a1 a2 : Int32) (X : BX) (M : Mo), Rel X M → ∃ (r : Int32) (X1 : BX) (M1 : Mo), f_X7_put N a1 a2 X = some (r, X1) ∧ f_X8_put N a1 a2 M = some (r, M1) ∧ Rel X1 M1) (hk : ∀ (X : BX) (M : Mo), Rel X M → ∀ (H : Heap) (locs : List Loc), va_P D vwCl (wX cyI cyZ cyT qa X ++ wM cyI cyZ qb M) H → va_D (fun q : Nat => s.heap.size ≤ q) (wX cyI cyZ cyT qa X ++ wM cyI cyZ qb M) → va_S (fun q : Nat => s.heap.size ≤ q) s.heap H locs → ∀ (ls : Array Slot), lv_has ls 4 [(0, .ref b), (1, .ref (qa 0)), (2, .ref (qb 0)), (3, .int x3)] → W p l e room_1 s m #[Value.ref b] below meth c H locs 69 819 (lw_Z below #[Value.ref b] s) (F0 m 1098 ls [])) (X : BX) (M : Mo) (hRel : Rel X M) (H : Heap) (locs : List Loc) : va_P D vwCl (wX cyI cyZ cyT qa X ++ wM cyI cyZ qb M) H → va_D (fun q : Nat => s.heap.size ≤ q) (wX cyI cyZ cyT qa X ++ wM cyI cyZ qb M) → va_S (fun q : Nat => s.heap.size ≤ q) s.heap H locs → ∀ (ls : Array Slot), lv_has ls 4 [(0, .ref b), (1, .ref (qa 0)), (2, .ref (qb 0)), (3, .int x3)] → W p l e room_1 s m #[Value.ref b] below meth c H locs 69 819 (lw_Z below #[Value.ref b] s) (F0 m 411 ls []) := by
  obtain ⟨hx, hb, hr, hml, hown, hts, hX, hbl, hlocks, hgv⟩ := C0
  have hts := fun w h => hts w (wsL_law_in w h)
  have hA : ∀ q : Nat, s.heap.size ≤ q → (fun q : Nat => s.heap.size ≤ q) q := fun _ h => h
  have hbA : ¬ (fun q : Nat => s.heap.size ≤ q) b := Nat.not_le.mpr hbl
  intro hP hD hS ls hl
  obtain ⟨r, X1, M1, e1, e2, hRel1⟩ := hR (xs (x3 + 1).toNatClampNeg) (xs (x3 + 2).toNatClampNeg) X M hRel
  refine lv_aload_n hx hb dL_law_411 rfl (lv_at hl 1 rfl) ?_
  refine lv_aload_n hx hb dL_law_412 rfl (lv_at hl 0 rfl) ?_
  refine lv_iload_n hx hb dL_law_413 rfl (lv_at hl 3 rfl) ?_
  refine lv_iconst (v := 1) hx hb dL_law_414 (by decide) ?_
  refine lv_iadd hx hb dL_law_415 ?_
  refine va_sld hx hb hX hbl hbA hS (hin 1 (by decide) (by decide)) dL_law_416 ?_
  refine lv_aload_n hx hb dL_law_417 rfl (lv_at hl 0 rfl) ?_
  refine lv_iload_n hx hb dL_law_418 rfl (lv_at hl 3 rfl) ?_
  refine lv_iconst (v := 2) hx hb dL_law_419 (by decide) ?_
  refine lv_iadd hx hb dL_law_420 ?_
  refine va_sld hx hb hX hbl hbA hS (hin 2 (by decide) (by decide)) dL_law_421 ?_
  refine jgiL (w1 := fun u : BX => wX cyI cyZ cyT qa u) (wn := wX cyI cyZ cyT qa X1) (jmV (As := [.int (xs (x3 + 1).toNatClampNeg), .int (xs (x3 + 2).toNatClampNeg)]) (rest := []) ⟨hx, hb, hml, hown, hts⟩ (c_X7_put l D cyI cyZ cyT qa H.size N (xs (x3 + 1).toNatClampNeg) (xs (x3 + 2).toNatClampNeg) X (r, X1) e1) (cwV 2 hts gL_law_X7_put rfl rfl rfl (by decide +kernel) ⟨Nat.le_of_ble_eq_true rfl, Nat.le_of_ble_eq_true rfl⟩) hK (jPl hP) (jDl hD) rfl 7 0 rfl rfl rfl hl.1 (Nat.le_of_ble_eq_true rfl) dL_law_422 ⟨Nat.le_of_ble_eq_true rfl, Nat.le_of_ble_eq_true rfl⟩) hP hD hS hA rfl (fun H locs hP hD hS => ?_)
  refine lv_aload_n hx hb dL_law_425 rfl (lv_at hl 2 rfl) ?_
  refine lv_aload_n hx hb dL_law_426 rfl (lv_at hl 0 rfl) ?_
  refine lv_iload_n hx hb dL_law_427 rfl (lv_at hl 3 rfl) ?_
  refine lv_iconst (v := 1) hx hb dL_law_428 (by decide) ?_
  refine lv_iadd hx hb dL_law_429 ?_
  refine va_sld hx hb hX hbl hbA hS (hin 1 (by decide) (by decide)) dL_law_430 ?_
  refine lv_aload_n hx hb dL_law_431 rfl (lv_at hl 0 rfl) ?_
  refine lv_iload_n hx hb dL_law_432 rfl (lv_at hl 3 rfl) ?_
  refine lv_iconst (v := 2) hx hb dL_law_433 (by decide) ?_
  refine lv_iadd hx hb dL_law_434 ?_
  refine va_sld hx hb hX hbl hbA hS (hin 2 (by decide) (by decide)) dL_law_435 ?_
  refine jgiR (w1 := fun u : Mo => wM cyI cyZ qb u) (wn := wM cyI cyZ qb M1) (jmV (As := [.int (xs (x3 + 1).toNatClampNeg), .int (xs (x3 + 2).toNatClampNeg)]) (rest := [.int (r, X1).1]) ⟨hx, hb, hml, hown, hts⟩ (c_X8_put l D cyI cyZ cyT qb H.size N (xs (x3 + 1).toNatClampNeg) (xs (x3 + 2).toNatClampNeg) M (r, M1) e2) (cwV 2 hts gL_law_X8_put rfl rfl rfl (by decide +kernel) ⟨Nat.le_of_ble_eq_true rfl, Nat.le_of_ble_eq_true rfl⟩) hK (jPr hP) (jDr hD) rfl 8 0 rfl rfl rfl hl.1 (Nat.le_of_ble_eq_true rfl) dL_law_436 ⟨Nat.le_of_ble_eq_true rfl, Nat.le_of_ble_eq_true rfl⟩) hP hD hS hA rfl (fun H locs hP hD hS => ?_)
  refine lv_icmp_eq (tgt := 1098) hx hb dL_law_439 (by decide) (fun _ => ?_) (fun c => absurd rfl c)
  exact hk X1 M1 hRel1 H locs hP hD hS ls hl
set_option maxHeartbeats 4000000 in
set_option maxRecDepth 100000 in
theorem law_clear {p : Program} {l : Launch} {e : Env} {s : State} {m : MethodId} {below : List Frame} {meth : Method} {c : Code} {D : va_G} {cyI cyZ cyT : ClassId} {adK adV qa qb : Nat → Nat} {b L : Nat} {xs : Nat → Int32} {N : Nat} {Rel : BX → Mo → Prop} (C0 : lw_At p s m meth c b L xs) (hK : jK D cyI cyZ cyT s) (hZ : jStr adK adV (fun q : Nat => s.heap.size ≤ q) s s.heap) (x3 : Int32) (hin : ∀ k : Int32, k ≤ 5 → ¬ k < 0 → vp_in (x3 + k) L) (hR : ∀ (X : BX) (M : Mo), Rel X M → ∃ (r : Int32) (X1 : BX) (M1 : Mo), f_X7_clear N X = some (r, X1) ∧ f_X8_clear N M = some (r, M1) ∧ Rel X1 M1) (hk : ∀ (X : BX) (M : Mo), Rel X M → ∀ (H : Heap) (locs : List Loc), va_P D vwCl (wX cyI cyZ cyT qa X ++ wM cyI cyZ qb M) H → va_D (fun q : Nat => s.heap.size ≤ q) (wX cyI cyZ cyT qa X ++ wM cyI cyZ qb M) → va_S (fun q : Nat => s.heap.size ≤ q) s.heap H locs → ∀ (ls : Array Slot), lv_has ls 4 [(0, .ref b), (1, .ref (qa 0)), (2, .ref (qb 0)), (3, .int x3)] → W p l e room_1 s m #[Value.ref b] below meth c H locs 69 819 (lw_Z below #[Value.ref b] s) (F0 m 1098 ls [])) (X : BX) (M : Mo) (hRel : Rel X M) (H : Heap) (locs : List Loc) : va_P D vwCl (wX cyI cyZ cyT qa X ++ wM cyI cyZ qb M) H → va_D (fun q : Nat => s.heap.size ≤ q) (wX cyI cyZ cyT qa X ++ wM cyI cyZ qb M) → va_S (fun q : Nat => s.heap.size ≤ q) s.heap H locs → ∀ (ls : Array Slot), lv_has ls 4 [(0, .ref b), (1, .ref (qa 0)), (2, .ref (qb 0)), (3, .int x3)] → W p l e room_1 s m #[Value.ref b] below meth c H locs 69 819 (lw_Z below #[Value.ref b] s) (F0 m 444 ls []) := by
  obtain ⟨hx, hb, hr, hml, hown, hts, hX, hbl, hlocks, hgv⟩ := C0
  have hts := fun w h => hts w (wsL_law_in w h)
  have hA : ∀ q : Nat, s.heap.size ≤ q → (fun q : Nat => s.heap.size ≤ q) q := fun _ h => h
  have hbA : ¬ (fun q : Nat => s.heap.size ≤ q) b := Nat.not_le.mpr hbl
  intro hP hD hS ls hl
  obtain ⟨r, X1, M1, e1, e2, hRel1⟩ := hR  X M hRel
  refine lv_aload_n hx hb dL_law_444 rfl (lv_at hl 1 rfl) ?_
  refine jgiL (w1 := fun u : BX => wX cyI cyZ cyT qa u) (wn := wX cyI cyZ cyT qa X1) (jmV (As := []) (rest := []) ⟨hx, hb, hml, hown, hts⟩ (c_X7_clear l D cyI cyZ cyT qa H.size N X (r, X1) e1) (cwV 0 hts gL_law_X7_clear rfl rfl rfl (by decide +kernel) ⟨Nat.le_of_ble_eq_true rfl, Nat.le_of_ble_eq_true rfl⟩) hK (jPl hP) (jDl hD) rfl 7 0 rfl rfl rfl hl.1 (Nat.le_of_ble_eq_true rfl) dL_law_445 ⟨Nat.le_of_ble_eq_true rfl, Nat.le_of_ble_eq_true rfl⟩) hP hD hS hA rfl (fun H locs hP hD hS => ?_)
  refine lv_aload_n hx hb dL_law_448 rfl (lv_at hl 2 rfl) ?_
  refine jgiR (w1 := fun u : Mo => wM cyI cyZ qb u) (wn := wM cyI cyZ qb M1) (jmV (As := []) (rest := [.int (r, X1).1]) ⟨hx, hb, hml, hown, hts⟩ (c_X8_clear l D cyI cyZ cyT qb H.size N M (r, M1) e2) (cwV 0 hts gL_law_X8_clear rfl rfl rfl (by decide +kernel) ⟨Nat.le_of_ble_eq_true rfl, Nat.le_of_ble_eq_true rfl⟩) hK (jPr hP) (jDr hD) rfl 8 0 rfl rfl rfl hl.1 (Nat.le_of_ble_eq_true rfl) dL_law_449 ⟨Nat.le_of_ble_eq_true rfl, Nat.le_of_ble_eq_true rfl⟩) hP hD hS hA rfl (fun H locs hP hD hS => ?_)
  refine lv_icmp_eq (tgt := 1098) hx hb dL_law_452 (by decide) (fun _ => ?_) (fun c => absurd rfl c)
  exact hk X1 M1 hRel1 H locs hP hD hS ls hl
set_option maxHeartbeats 4000000 in
set_option maxRecDepth 100000 in
theorem law_night {p : Program} {l : Launch} {e : Env} {s : State} {m : MethodId} {below : List Frame} {meth : Method} {c : Code} {D : va_G} {cyI cyZ cyT : ClassId} {adK adV qa qb : Nat → Nat} {b L : Nat} {xs : Nat → Int32} {N : Nat} {Rel : BX → Mo → Prop} (C0 : lw_At p s m meth c b L xs) (hK : jK D cyI cyZ cyT s) (hZ : jStr adK adV (fun q : Nat => s.heap.size ≤ q) s s.heap) (x3 : Int32) (hin : ∀ k : Int32, k ≤ 5 → ¬ k < 0 → vp_in (x3 + k) L) (hR : ∀ (a1 : Int32) (X : BX) (M : Mo), Rel X M → ∃ (r : Int32) (X1 : BX) (M1 : Mo), f_X7_night N a1 X = some (r, X1) ∧ f_X8_night N a1 M = some (r, M1) ∧ Rel X1 M1) (hk : ∀ (X : BX) (M : Mo), Rel X M → ∀ (H : Heap) (locs : List Loc), va_P D vwCl (wX cyI cyZ cyT qa X ++ wM cyI cyZ qb M) H → va_D (fun q : Nat => s.heap.size ≤ q) (wX cyI cyZ cyT qa X ++ wM cyI cyZ qb M) → va_S (fun q : Nat => s.heap.size ≤ q) s.heap H locs → ∀ (ls : Array Slot), lv_has ls 4 [(0, .ref b), (1, .ref (qa 0)), (2, .ref (qb 0)), (3, .int x3)] → W p l e room_1 s m #[Value.ref b] below meth c H locs 69 819 (lw_Z below #[Value.ref b] s) (F0 m 1098 ls [])) (X : BX) (M : Mo) (hRel : Rel X M) (H : Heap) (locs : List Loc) : va_P D vwCl (wX cyI cyZ cyT qa X ++ wM cyI cyZ qb M) H → va_D (fun q : Nat => s.heap.size ≤ q) (wX cyI cyZ cyT qa X ++ wM cyI cyZ qb M) → va_S (fun q : Nat => s.heap.size ≤ q) s.heap H locs → ∀ (ls : Array Slot), lv_has ls 4 [(0, .ref b), (1, .ref (qa 0)), (2, .ref (qb 0)), (3, .int x3)] → W p l e room_1 s m #[Value.ref b] below meth c H locs 69 819 (lw_Z below #[Value.ref b] s) (F0 m 457 ls []) := by
  obtain ⟨hx, hb, hr, hml, hown, hts, hX, hbl, hlocks, hgv⟩ := C0
  have hts := fun w h => hts w (wsL_law_in w h)
  have hA : ∀ q : Nat, s.heap.size ≤ q → (fun q : Nat => s.heap.size ≤ q) q := fun _ h => h
  have hbA : ¬ (fun q : Nat => s.heap.size ≤ q) b := Nat.not_le.mpr hbl
  intro hP hD hS ls hl
  obtain ⟨r, X1, M1, e1, e2, hRel1⟩ := hR (xs (x3 + 1).toNatClampNeg) X M hRel
  refine lv_aload_n hx hb dL_law_457 rfl (lv_at hl 1 rfl) ?_
  refine lv_aload_n hx hb dL_law_458 rfl (lv_at hl 0 rfl) ?_
  refine lv_iload_n hx hb dL_law_459 rfl (lv_at hl 3 rfl) ?_
  refine lv_iconst (v := 1) hx hb dL_law_460 (by decide) ?_
  refine lv_iadd hx hb dL_law_461 ?_
  refine va_sld hx hb hX hbl hbA hS (hin 1 (by decide) (by decide)) dL_law_462 ?_
  refine jgiL (w1 := fun u : BX => wX cyI cyZ cyT qa u) (wn := wX cyI cyZ cyT qa X1) (jmV (As := [.int (xs (x3 + 1).toNatClampNeg)]) (rest := []) ⟨hx, hb, hml, hown, hts⟩ (c_X7_night l D cyI cyZ cyT qa H.size N (xs (x3 + 1).toNatClampNeg) X (r, X1) e1) (cwV 1 hts gL_law_X7_night rfl rfl rfl (by decide +kernel) ⟨Nat.le_of_ble_eq_true rfl, Nat.le_of_ble_eq_true rfl⟩) hK (jPl hP) (jDl hD) rfl 7 0 rfl rfl rfl hl.1 (Nat.le_of_ble_eq_true rfl) dL_law_463 ⟨Nat.le_of_ble_eq_true rfl, Nat.le_of_ble_eq_true rfl⟩) hP hD hS hA rfl (fun H locs hP hD hS => ?_)
  refine lv_aload_n hx hb dL_law_466 rfl (lv_at hl 2 rfl) ?_
  refine lv_aload_n hx hb dL_law_467 rfl (lv_at hl 0 rfl) ?_
  refine lv_iload_n hx hb dL_law_468 rfl (lv_at hl 3 rfl) ?_
  refine lv_iconst (v := 1) hx hb dL_law_469 (by decide) ?_
  refine lv_iadd hx hb dL_law_470 ?_
  refine va_sld hx hb hX hbl hbA hS (hin 1 (by decide) (by decide)) dL_law_471 ?_
  refine jgiR (w1 := fun u : Mo => wM cyI cyZ qb u) (wn := wM cyI cyZ qb M1) (jmV (As := [.int (xs (x3 + 1).toNatClampNeg)]) (rest := [.int (r, X1).1]) ⟨hx, hb, hml, hown, hts⟩ (c_X8_night l D cyI cyZ cyT qb H.size N (xs (x3 + 1).toNatClampNeg) M (r, M1) e2) (cwV 1 hts gL_law_X8_night rfl rfl rfl (by decide +kernel) ⟨Nat.le_of_ble_eq_true rfl, Nat.le_of_ble_eq_true rfl⟩) hK (jPr hP) (jDr hD) rfl 8 0 rfl rfl rfl hl.1 (Nat.le_of_ble_eq_true rfl) dL_law_472 ⟨Nat.le_of_ble_eq_true rfl, Nat.le_of_ble_eq_true rfl⟩) hP hD hS hA rfl (fun H locs hP hD hS => ?_)
  refine lv_icmp_eq (tgt := 1098) hx hb dL_law_475 (by decide) (fun _ => ?_) (fun c => absurd rfl c)
  exact hk X1 M1 hRel1 H locs hP hD hS ls hl
set_option maxHeartbeats 4000000 in
set_option maxRecDepth 100000 in
theorem law_undo {p : Program} {l : Launch} {e : Env} {s : State} {m : MethodId} {below : List Frame} {meth : Method} {c : Code} {D : va_G} {cyI cyZ cyT : ClassId} {adK adV qa qb : Nat → Nat} {b L : Nat} {xs : Nat → Int32} {N : Nat} {Rel : BX → Mo → Prop} (C0 : lw_At p s m meth c b L xs) (hK : jK D cyI cyZ cyT s) (hZ : jStr adK adV (fun q : Nat => s.heap.size ≤ q) s s.heap) (x3 : Int32) (hin : ∀ k : Int32, k ≤ 5 → ¬ k < 0 → vp_in (x3 + k) L) (hR : ∀ (X : BX) (M : Mo), Rel X M → ∃ (r : Int32) (X1 : BX) (M1 : Mo), f_X7_undo N X = some (r, X1) ∧ f_X8_undo N M = some (r, M1) ∧ Rel X1 M1) (hk : ∀ (X : BX) (M : Mo), Rel X M → ∀ (H : Heap) (locs : List Loc), va_P D vwCl (wX cyI cyZ cyT qa X ++ wM cyI cyZ qb M) H → va_D (fun q : Nat => s.heap.size ≤ q) (wX cyI cyZ cyT qa X ++ wM cyI cyZ qb M) → va_S (fun q : Nat => s.heap.size ≤ q) s.heap H locs → ∀ (ls : Array Slot), lv_has ls 4 [(0, .ref b), (1, .ref (qa 0)), (2, .ref (qb 0)), (3, .int x3)] → W p l e room_1 s m #[Value.ref b] below meth c H locs 69 819 (lw_Z below #[Value.ref b] s) (F0 m 1098 ls [])) (X : BX) (M : Mo) (hRel : Rel X M) (H : Heap) (locs : List Loc) : va_P D vwCl (wX cyI cyZ cyT qa X ++ wM cyI cyZ qb M) H → va_D (fun q : Nat => s.heap.size ≤ q) (wX cyI cyZ cyT qa X ++ wM cyI cyZ qb M) → va_S (fun q : Nat => s.heap.size ≤ q) s.heap H locs → ∀ (ls : Array Slot), lv_has ls 4 [(0, .ref b), (1, .ref (qa 0)), (2, .ref (qb 0)), (3, .int x3)] → W p l e room_1 s m #[Value.ref b] below meth c H locs 69 819 (lw_Z below #[Value.ref b] s) (F0 m 480 ls []) := by
  obtain ⟨hx, hb, hr, hml, hown, hts, hX, hbl, hlocks, hgv⟩ := C0
  have hts := fun w h => hts w (wsL_law_in w h)
  have hA : ∀ q : Nat, s.heap.size ≤ q → (fun q : Nat => s.heap.size ≤ q) q := fun _ h => h
  have hbA : ¬ (fun q : Nat => s.heap.size ≤ q) b := Nat.not_le.mpr hbl
  intro hP hD hS ls hl
  obtain ⟨r, X1, M1, e1, e2, hRel1⟩ := hR  X M hRel
  refine lv_aload_n hx hb dL_law_480 rfl (lv_at hl 1 rfl) ?_
  refine jgiL (w1 := fun u : BX => wX cyI cyZ cyT qa u) (wn := wX cyI cyZ cyT qa X1) (jmV (As := []) (rest := []) ⟨hx, hb, hml, hown, hts⟩ (c_X7_undo l D cyI cyZ cyT qa H.size N X (r, X1) e1) (cwV 0 hts gL_law_X7_undo rfl rfl rfl (by decide +kernel) ⟨Nat.le_of_ble_eq_true rfl, Nat.le_of_ble_eq_true rfl⟩) hK (jPl hP) (jDl hD) rfl 7 0 rfl rfl rfl hl.1 (Nat.le_of_ble_eq_true rfl) dL_law_481 ⟨Nat.le_of_ble_eq_true rfl, Nat.le_of_ble_eq_true rfl⟩) hP hD hS hA rfl (fun H locs hP hD hS => ?_)
  refine lv_aload_n hx hb dL_law_484 rfl (lv_at hl 2 rfl) ?_
  refine jgiR (w1 := fun u : Mo => wM cyI cyZ qb u) (wn := wM cyI cyZ qb M1) (jmV (As := []) (rest := [.int (r, X1).1]) ⟨hx, hb, hml, hown, hts⟩ (c_X8_undo l D cyI cyZ cyT qb H.size N M (r, M1) e2) (cwV 0 hts gL_law_X8_undo rfl rfl rfl (by decide +kernel) ⟨Nat.le_of_ble_eq_true rfl, Nat.le_of_ble_eq_true rfl⟩) hK (jPr hP) (jDr hD) rfl 8 0 rfl rfl rfl hl.1 (Nat.le_of_ble_eq_true rfl) dL_law_485 ⟨Nat.le_of_ble_eq_true rfl, Nat.le_of_ble_eq_true rfl⟩) hP hD hS hA rfl (fun H locs hP hD hS => ?_)
  refine lv_icmp_eq (tgt := 1098) hx hb dL_law_488 (by decide) (fun _ => ?_) (fun c => absurd rfl c)
  exact hk X1 M1 hRel1 H locs hP hD hS ls hl
set_option maxHeartbeats 4000000 in
set_option maxRecDepth 100000 in
theorem law_keep {p : Program} {l : Launch} {e : Env} {s : State} {m : MethodId} {below : List Frame} {meth : Method} {c : Code} {D : va_G} {cyI cyZ cyT : ClassId} {adK adV qa qb : Nat → Nat} {b L : Nat} {xs : Nat → Int32} {N : Nat} {Rel : BX → Mo → Prop} (C0 : lw_At p s m meth c b L xs) (hK : jK D cyI cyZ cyT s) (hZ : jStr adK adV (fun q : Nat => s.heap.size ≤ q) s s.heap) (x3 : Int32) (hin : ∀ k : Int32, k ≤ 5 → ¬ k < 0 → vp_in (x3 + k) L) (hR : ∀ (a1 : Int32) (X : BX) (M : Mo), Rel X M → ∃ (r : Int32) (X1 : BX) (M1 : Mo), f_X7_keep N a1 X = some (r, X1) ∧ f_X8_keep N a1 M = some (r, M1) ∧ Rel X1 M1) (hk : ∀ (X : BX) (M : Mo), Rel X M → ∀ (H : Heap) (locs : List Loc), va_P D vwCl (wX cyI cyZ cyT qa X ++ wM cyI cyZ qb M) H → va_D (fun q : Nat => s.heap.size ≤ q) (wX cyI cyZ cyT qa X ++ wM cyI cyZ qb M) → va_S (fun q : Nat => s.heap.size ≤ q) s.heap H locs → ∀ (ls : Array Slot), lv_has ls 4 [(0, .ref b), (1, .ref (qa 0)), (2, .ref (qb 0)), (3, .int x3)] → W p l e room_1 s m #[Value.ref b] below meth c H locs 69 819 (lw_Z below #[Value.ref b] s) (F0 m 1098 ls [])) (X : BX) (M : Mo) (hRel : Rel X M) (H : Heap) (locs : List Loc) : va_P D vwCl (wX cyI cyZ cyT qa X ++ wM cyI cyZ qb M) H → va_D (fun q : Nat => s.heap.size ≤ q) (wX cyI cyZ cyT qa X ++ wM cyI cyZ qb M) → va_S (fun q : Nat => s.heap.size ≤ q) s.heap H locs → ∀ (ls : Array Slot), lv_has ls 4 [(0, .ref b), (1, .ref (qa 0)), (2, .ref (qb 0)), (3, .int x3)] → W p l e room_1 s m #[Value.ref b] below meth c H locs 69 819 (lw_Z below #[Value.ref b] s) (F0 m 493 ls []) := by
  obtain ⟨hx, hb, hr, hml, hown, hts, hX, hbl, hlocks, hgv⟩ := C0
  have hts := fun w h => hts w (wsL_law_in w h)
  have hA : ∀ q : Nat, s.heap.size ≤ q → (fun q : Nat => s.heap.size ≤ q) q := fun _ h => h
  have hbA : ¬ (fun q : Nat => s.heap.size ≤ q) b := Nat.not_le.mpr hbl
  intro hP hD hS ls hl
  obtain ⟨r, X1, M1, e1, e2, hRel1⟩ := hR (xs (x3 + 1).toNatClampNeg) X M hRel
  refine lv_aload_n hx hb dL_law_493 rfl (lv_at hl 1 rfl) ?_
  refine lv_aload_n hx hb dL_law_494 rfl (lv_at hl 0 rfl) ?_
  refine lv_iload_n hx hb dL_law_495 rfl (lv_at hl 3 rfl) ?_
  refine lv_iconst (v := 1) hx hb dL_law_496 (by decide) ?_
  refine lv_iadd hx hb dL_law_497 ?_
  refine va_sld hx hb hX hbl hbA hS (hin 1 (by decide) (by decide)) dL_law_498 ?_
  refine jgiL (w1 := fun u : BX => wX cyI cyZ cyT qa u) (wn := wX cyI cyZ cyT qa X1) (jmV (As := [.int (xs (x3 + 1).toNatClampNeg)]) (rest := []) ⟨hx, hb, hml, hown, hts⟩ (c_X7_keep l D cyI cyZ cyT qa H.size N (xs (x3 + 1).toNatClampNeg) X (r, X1) e1) (cwV 1 hts gL_law_X7_keep rfl rfl rfl (by decide +kernel) ⟨Nat.le_of_ble_eq_true rfl, Nat.le_of_ble_eq_true rfl⟩) hK (jPl hP) (jDl hD) rfl 7 0 rfl rfl rfl hl.1 (Nat.le_of_ble_eq_true rfl) dL_law_499 ⟨Nat.le_of_ble_eq_true rfl, Nat.le_of_ble_eq_true rfl⟩) hP hD hS hA rfl (fun H locs hP hD hS => ?_)
  refine lv_aload_n hx hb dL_law_502 rfl (lv_at hl 2 rfl) ?_
  refine lv_aload_n hx hb dL_law_503 rfl (lv_at hl 0 rfl) ?_
  refine lv_iload_n hx hb dL_law_504 rfl (lv_at hl 3 rfl) ?_
  refine lv_iconst (v := 1) hx hb dL_law_505 (by decide) ?_
  refine lv_iadd hx hb dL_law_506 ?_
  refine va_sld hx hb hX hbl hbA hS (hin 1 (by decide) (by decide)) dL_law_507 ?_
  refine jgiR (w1 := fun u : Mo => wM cyI cyZ qb u) (wn := wM cyI cyZ qb M1) (jmV (As := [.int (xs (x3 + 1).toNatClampNeg)]) (rest := [.int (r, X1).1]) ⟨hx, hb, hml, hown, hts⟩ (c_X8_keep l D cyI cyZ cyT qb H.size N (xs (x3 + 1).toNatClampNeg) M (r, M1) e2) (cwV 1 hts gL_law_X8_keep rfl rfl rfl (by decide +kernel) ⟨Nat.le_of_ble_eq_true rfl, Nat.le_of_ble_eq_true rfl⟩) hK (jPr hP) (jDr hD) rfl 8 0 rfl rfl rfl hl.1 (Nat.le_of_ble_eq_true rfl) dL_law_508 ⟨Nat.le_of_ble_eq_true rfl, Nat.le_of_ble_eq_true rfl⟩) hP hD hS hA rfl (fun H locs hP hD hS => ?_)
  refine lv_icmp_eq (tgt := 1098) hx hb dL_law_511 (by decide) (fun _ => ?_) (fun c => absurd rfl c)
  exact hk X1 M1 hRel1 H locs hP hD hS ls hl
set_option maxHeartbeats 4000000 in
set_option maxRecDepth 100000 in
theorem law_back {p : Program} {l : Launch} {e : Env} {s : State} {m : MethodId} {below : List Frame} {meth : Method} {c : Code} {D : va_G} {cyI cyZ cyT : ClassId} {adK adV qa qb : Nat → Nat} {b L : Nat} {xs : Nat → Int32} {N : Nat} {Rel : BX → Mo → Prop} (C0 : lw_At p s m meth c b L xs) (hK : jK D cyI cyZ cyT s) (hZ : jStr adK adV (fun q : Nat => s.heap.size ≤ q) s s.heap) (x3 : Int32) (hin : ∀ k : Int32, k ≤ 5 → ¬ k < 0 → vp_in (x3 + k) L) (hR : ∀ (a1 : Int32) (X : BX) (M : Mo), Rel X M → ∃ (r : Int32) (X1 : BX) (M1 : Mo), f_X7_back N a1 X = some (r, X1) ∧ f_X8_back N a1 M = some (r, M1) ∧ Rel X1 M1) (hk : ∀ (X : BX) (M : Mo), Rel X M → ∀ (H : Heap) (locs : List Loc), va_P D vwCl (wX cyI cyZ cyT qa X ++ wM cyI cyZ qb M) H → va_D (fun q : Nat => s.heap.size ≤ q) (wX cyI cyZ cyT qa X ++ wM cyI cyZ qb M) → va_S (fun q : Nat => s.heap.size ≤ q) s.heap H locs → ∀ (ls : Array Slot), lv_has ls 4 [(0, .ref b), (1, .ref (qa 0)), (2, .ref (qb 0)), (3, .int x3)] → W p l e room_1 s m #[Value.ref b] below meth c H locs 69 819 (lw_Z below #[Value.ref b] s) (F0 m 1098 ls [])) (X : BX) (M : Mo) (hRel : Rel X M) (H : Heap) (locs : List Loc) : va_P D vwCl (wX cyI cyZ cyT qa X ++ wM cyI cyZ qb M) H → va_D (fun q : Nat => s.heap.size ≤ q) (wX cyI cyZ cyT qa X ++ wM cyI cyZ qb M) → va_S (fun q : Nat => s.heap.size ≤ q) s.heap H locs → ∀ (ls : Array Slot), lv_has ls 4 [(0, .ref b), (1, .ref (qa 0)), (2, .ref (qb 0)), (3, .int x3)] → W p l e room_1 s m #[Value.ref b] below meth c H locs 69 819 (lw_Z below #[Value.ref b] s) (F0 m 516 ls []) := by
  obtain ⟨hx, hb, hr, hml, hown, hts, hX, hbl, hlocks, hgv⟩ := C0
  have hts := fun w h => hts w (wsL_law_in w h)
  have hA : ∀ q : Nat, s.heap.size ≤ q → (fun q : Nat => s.heap.size ≤ q) q := fun _ h => h
  have hbA : ¬ (fun q : Nat => s.heap.size ≤ q) b := Nat.not_le.mpr hbl
  intro hP hD hS ls hl
  obtain ⟨r, X1, M1, e1, e2, hRel1⟩ := hR (xs (x3 + 1).toNatClampNeg) X M hRel
  refine lv_aload_n hx hb dL_law_516 rfl (lv_at hl 1 rfl) ?_
  refine lv_aload_n hx hb dL_law_517 rfl (lv_at hl 0 rfl) ?_
  refine lv_iload_n hx hb dL_law_518 rfl (lv_at hl 3 rfl) ?_
  refine lv_iconst (v := 1) hx hb dL_law_519 (by decide) ?_
  refine lv_iadd hx hb dL_law_520 ?_
  refine va_sld hx hb hX hbl hbA hS (hin 1 (by decide) (by decide)) dL_law_521 ?_
  refine jgiL (w1 := fun u : BX => wX cyI cyZ cyT qa u) (wn := wX cyI cyZ cyT qa X1) (jmV (As := [.int (xs (x3 + 1).toNatClampNeg)]) (rest := []) ⟨hx, hb, hml, hown, hts⟩ (c_X7_back l D cyI cyZ cyT qa H.size N (xs (x3 + 1).toNatClampNeg) X (r, X1) e1) (cwV 1 hts gL_law_X7_back rfl rfl rfl (by decide +kernel) ⟨Nat.le_of_ble_eq_true rfl, Nat.le_of_ble_eq_true rfl⟩) hK (jPl hP) (jDl hD) rfl 7 0 rfl rfl rfl hl.1 (Nat.le_of_ble_eq_true rfl) dL_law_522 ⟨Nat.le_of_ble_eq_true rfl, Nat.le_of_ble_eq_true rfl⟩) hP hD hS hA rfl (fun H locs hP hD hS => ?_)
  refine lv_aload_n hx hb dL_law_525 rfl (lv_at hl 2 rfl) ?_
  refine lv_aload_n hx hb dL_law_526 rfl (lv_at hl 0 rfl) ?_
  refine lv_iload_n hx hb dL_law_527 rfl (lv_at hl 3 rfl) ?_
  refine lv_iconst (v := 1) hx hb dL_law_528 (by decide) ?_
  refine lv_iadd hx hb dL_law_529 ?_
  refine va_sld hx hb hX hbl hbA hS (hin 1 (by decide) (by decide)) dL_law_530 ?_
  refine jgiR (w1 := fun u : Mo => wM cyI cyZ qb u) (wn := wM cyI cyZ qb M1) (jmV (As := [.int (xs (x3 + 1).toNatClampNeg)]) (rest := [.int (r, X1).1]) ⟨hx, hb, hml, hown, hts⟩ (c_X8_back l D cyI cyZ cyT qb H.size N (xs (x3 + 1).toNatClampNeg) M (r, M1) e2) (cwV 1 hts gL_law_X8_back rfl rfl rfl (by decide +kernel) ⟨Nat.le_of_ble_eq_true rfl, Nat.le_of_ble_eq_true rfl⟩) hK (jPr hP) (jDr hD) rfl 8 0 rfl rfl rfl hl.1 (Nat.le_of_ble_eq_true rfl) dL_law_531 ⟨Nat.le_of_ble_eq_true rfl, Nat.le_of_ble_eq_true rfl⟩) hP hD hS hA rfl (fun H locs hP hD hS => ?_)
  refine lv_icmp_eq (tgt := 1098) hx hb dL_law_534 (by decide) (fun _ => ?_) (fun c => absurd rfl c)
  exact hk X1 M1 hRel1 H locs hP hD hS ls hl
set_option maxHeartbeats 4000000 in
set_option maxRecDepth 100000 in
theorem law_through {p : Program} {l : Launch} {e : Env} {s : State} {m : MethodId} {below : List Frame} {meth : Method} {c : Code} {D : va_G} {cyI cyZ cyT : ClassId} {adK adV qa qb : Nat → Nat} {b L : Nat} {xs : Nat → Int32} {N : Nat} {Rel : BX → Mo → Prop} (C0 : lw_At p s m meth c b L xs) (hK : jK D cyI cyZ cyT s) (hZ : jStr adK adV (fun q : Nat => s.heap.size ≤ q) s s.heap) (x3 : Int32) (hin : ∀ k : Int32, k ≤ 5 → ¬ k < 0 → vp_in (x3 + k) L) (hR : ∀ (a1 : Int32) (X : BX) (M : Mo), Rel X M → ∃ (r : Int32) (M1 : Mo), f_X7_through N a1 X = some r ∧ f_X8_through N a1 M = some (r, M1) ∧ Rel X M1) (hk : ∀ (X : BX) (M : Mo), Rel X M → ∀ (H : Heap) (locs : List Loc), va_P D vwCl (wX cyI cyZ cyT qa X ++ wM cyI cyZ qb M) H → va_D (fun q : Nat => s.heap.size ≤ q) (wX cyI cyZ cyT qa X ++ wM cyI cyZ qb M) → va_S (fun q : Nat => s.heap.size ≤ q) s.heap H locs → ∀ (ls : Array Slot), lv_has ls 4 [(0, .ref b), (1, .ref (qa 0)), (2, .ref (qb 0)), (3, .int x3)] → W p l e room_1 s m #[Value.ref b] below meth c H locs 69 819 (lw_Z below #[Value.ref b] s) (F0 m 1098 ls [])) (X : BX) (M : Mo) (hRel : Rel X M) (H : Heap) (locs : List Loc) : va_P D vwCl (wX cyI cyZ cyT qa X ++ wM cyI cyZ qb M) H → va_D (fun q : Nat => s.heap.size ≤ q) (wX cyI cyZ cyT qa X ++ wM cyI cyZ qb M) → va_S (fun q : Nat => s.heap.size ≤ q) s.heap H locs → ∀ (ls : Array Slot), lv_has ls 4 [(0, .ref b), (1, .ref (qa 0)), (2, .ref (qb 0)), (3, .int x3)] → W p l e room_1 s m #[Value.ref b] below meth c H locs 69 819 (lw_Z below #[Value.ref b] s) (F0 m 539 ls []) := by
  obtain ⟨hx, hb, hr, hml, hown, hts, hX, hbl, hlocks, hgv⟩ := C0
  have hts := fun w h => hts w (wsL_law_in w h)
  have hA : ∀ q : Nat, s.heap.size ≤ q → (fun q : Nat => s.heap.size ≤ q) q := fun _ h => h
  have hbA : ¬ (fun q : Nat => s.heap.size ≤ q) b := Nat.not_le.mpr hbl
  intro hP hD hS ls hl
  obtain ⟨r, M1, e1, e2, hRel1⟩ := hR (xs (x3 + 1).toNatClampNeg) X M hRel
  refine lv_aload_n hx hb dL_law_539 rfl (lv_at hl 1 rfl) ?_
  refine lv_aload_n hx hb dL_law_540 rfl (lv_at hl 0 rfl) ?_
  refine lv_iload_n hx hb dL_law_541 rfl (lv_at hl 3 rfl) ?_
  refine lv_iconst (v := 1) hx hb dL_law_542 (by decide) ?_
  refine lv_iadd hx hb dL_law_543 ?_
  refine va_sld hx hb hX hbl hbA hS (hin 1 (by decide) (by decide)) dL_law_544 ?_
  refine jki (jrV (As := [.int (xs (x3 + 1).toNatClampNeg)]) (rest := []) ⟨hx, hb, hml, hown, hts⟩ (c_X7_through l D cyI cyZ cyT qa N (xs (x3 + 1).toNatClampNeg) X r e1) (cwV 1 hts gL_law_X7_through rfl rfl rfl (by decide +kernel) ⟨Nat.le_of_ble_eq_true rfl, Nat.le_of_ble_eq_true rfl⟩) hK (jPl hP) rfl 7 0 rfl rfl rfl hl.1 (Nat.le_of_ble_eq_true rfl) dL_law_545 ⟨Nat.le_of_ble_eq_true rfl, Nat.le_of_ble_eq_true rfl⟩) ?_
  refine lv_aload_n hx hb dL_law_548 rfl (lv_at hl 2 rfl) ?_
  refine lv_aload_n hx hb dL_law_549 rfl (lv_at hl 0 rfl) ?_
  refine lv_iload_n hx hb dL_law_550 rfl (lv_at hl 3 rfl) ?_
  refine lv_iconst (v := 1) hx hb dL_law_551 (by decide) ?_
  refine lv_iadd hx hb dL_law_552 ?_
  refine va_sld hx hb hX hbl hbA hS (hin 1 (by decide) (by decide)) dL_law_553 ?_
  refine jgiR (w1 := fun u : Mo => wM cyI cyZ qb u) (wn := wM cyI cyZ qb M1) (jmV (As := [.int (xs (x3 + 1).toNatClampNeg)]) (rest := [.int r]) ⟨hx, hb, hml, hown, hts⟩ (c_X8_through l D cyI cyZ cyT qb H.size N (xs (x3 + 1).toNatClampNeg) M (r, M1) e2) (cwV 1 hts gL_law_X8_through rfl rfl rfl (by decide +kernel) ⟨Nat.le_of_ble_eq_true rfl, Nat.le_of_ble_eq_true rfl⟩) hK (jPr hP) (jDr hD) rfl 8 0 rfl rfl rfl hl.1 (Nat.le_of_ble_eq_true rfl) dL_law_554 ⟨Nat.le_of_ble_eq_true rfl, Nat.le_of_ble_eq_true rfl⟩) hP hD hS hA rfl (fun H locs hP hD hS => ?_)
  refine lv_icmp_eq (tgt := 1098) hx hb dL_law_557 (by decide) (fun _ => ?_) (fun c => absurd rfl c)
  exact hk X M1 hRel1 H locs hP hD hS ls hl
set_option maxHeartbeats 4000000 in
set_option maxRecDepth 100000 in
theorem law_fails {p : Program} {l : Launch} {e : Env} {s : State} {m : MethodId} {below : List Frame} {meth : Method} {c : Code} {D : va_G} {cyI cyZ cyT : ClassId} {adK adV qa qb : Nat → Nat} {b L : Nat} {xs : Nat → Int32} {N : Nat} {Rel : BX → Mo → Prop} (C0 : lw_At p s m meth c b L xs) (hK : jK D cyI cyZ cyT s) (hZ : jStr adK adV (fun q : Nat => s.heap.size ≤ q) s s.heap) (x3 : Int32) (hin : ∀ k : Int32, k ≤ 5 → ¬ k < 0 → vp_in (x3 + k) L) (hR : ∀ (a1 a2 : Int32) (X : BX) (M : Mo), Rel X M → ∃ (r : Int32) (M1 : Mo), f_X7_fails N a1 a2 X = some r ∧ f_X8_fails_ N a1 a2 M = some (r, M1) ∧ Rel X M1) (hk : ∀ (X : BX) (M : Mo), Rel X M → ∀ (H : Heap) (locs : List Loc), va_P D vwCl (wX cyI cyZ cyT qa X ++ wM cyI cyZ qb M) H → va_D (fun q : Nat => s.heap.size ≤ q) (wX cyI cyZ cyT qa X ++ wM cyI cyZ qb M) → va_S (fun q : Nat => s.heap.size ≤ q) s.heap H locs → ∀ (ls : Array Slot), lv_has ls 4 [(0, .ref b), (1, .ref (qa 0)), (2, .ref (qb 0)), (3, .int x3)] → W p l e room_1 s m #[Value.ref b] below meth c H locs 69 819 (lw_Z below #[Value.ref b] s) (F0 m 1098 ls [])) (X : BX) (M : Mo) (hRel : Rel X M) (H : Heap) (locs : List Loc) : va_P D vwCl (wX cyI cyZ cyT qa X ++ wM cyI cyZ qb M) H → va_D (fun q : Nat => s.heap.size ≤ q) (wX cyI cyZ cyT qa X ++ wM cyI cyZ qb M) → va_S (fun q : Nat => s.heap.size ≤ q) s.heap H locs → ∀ (ls : Array Slot), lv_has ls 4 [(0, .ref b), (1, .ref (qa 0)), (2, .ref (qb 0)), (3, .int x3)] → W p l e room_1 s m #[Value.ref b] below meth c H locs 69 819 (lw_Z below #[Value.ref b] s) (F0 m 562 ls []) := by
  obtain ⟨hx, hb, hr, hml, hown, hts, hX, hbl, hlocks, hgv⟩ := C0
  have hts := fun w h => hts w (wsL_law_in w h)
  have hA : ∀ q : Nat, s.heap.size ≤ q → (fun q : Nat => s.heap.size ≤ q) q := fun _ h => h
  have hbA : ¬ (fun q : Nat => s.heap.size ≤ q) b := Nat.not_le.mpr hbl
  intro hP hD hS ls hl
  obtain ⟨r, M1, e1, e2, hRel1⟩ := hR (xs (x3 + 1).toNatClampNeg) (xs (x3 + 2).toNatClampNeg) X M hRel
  refine lv_aload_n hx hb dL_law_562 rfl (lv_at hl 1 rfl) ?_
  refine lv_aload_n hx hb dL_law_563 rfl (lv_at hl 0 rfl) ?_
  refine lv_iload_n hx hb dL_law_564 rfl (lv_at hl 3 rfl) ?_
  refine lv_iconst (v := 1) hx hb dL_law_565 (by decide) ?_
  refine lv_iadd hx hb dL_law_566 ?_
  refine va_sld hx hb hX hbl hbA hS (hin 1 (by decide) (by decide)) dL_law_567 ?_
  refine lv_aload_n hx hb dL_law_568 rfl (lv_at hl 0 rfl) ?_
  refine lv_iload_n hx hb dL_law_569 rfl (lv_at hl 3 rfl) ?_
  refine lv_iconst (v := 2) hx hb dL_law_570 (by decide) ?_
  refine lv_iadd hx hb dL_law_571 ?_
  refine va_sld hx hb hX hbl hbA hS (hin 2 (by decide) (by decide)) dL_law_572 ?_
  refine jki (jrV (As := [.int (xs (x3 + 1).toNatClampNeg), .int (xs (x3 + 2).toNatClampNeg)]) (rest := []) ⟨hx, hb, hml, hown, hts⟩ (c_X7_fails l D cyI cyZ cyT qa N (xs (x3 + 1).toNatClampNeg) (xs (x3 + 2).toNatClampNeg) X r e1) (cwV 2 hts gL_law_X7_fails rfl rfl rfl (by decide +kernel) ⟨Nat.le_of_ble_eq_true rfl, Nat.le_of_ble_eq_true rfl⟩) hK (jPl hP) rfl 7 0 rfl rfl rfl hl.1 (Nat.le_of_ble_eq_true rfl) dL_law_573 ⟨Nat.le_of_ble_eq_true rfl, Nat.le_of_ble_eq_true rfl⟩) ?_
  refine lv_aload_n hx hb dL_law_576 rfl (lv_at hl 2 rfl) ?_
  refine lv_aload_n hx hb dL_law_577 rfl (lv_at hl 0 rfl) ?_
  refine lv_iload_n hx hb dL_law_578 rfl (lv_at hl 3 rfl) ?_
  refine lv_iconst (v := 1) hx hb dL_law_579 (by decide) ?_
  refine lv_iadd hx hb dL_law_580 ?_
  refine va_sld hx hb hX hbl hbA hS (hin 1 (by decide) (by decide)) dL_law_581 ?_
  refine lv_aload_n hx hb dL_law_582 rfl (lv_at hl 0 rfl) ?_
  refine lv_iload_n hx hb dL_law_583 rfl (lv_at hl 3 rfl) ?_
  refine lv_iconst (v := 2) hx hb dL_law_584 (by decide) ?_
  refine lv_iadd hx hb dL_law_585 ?_
  refine va_sld hx hb hX hbl hbA hS (hin 2 (by decide) (by decide)) dL_law_586 ?_
  refine jgiR (w1 := fun u : Mo => wM cyI cyZ qb u) (wn := wM cyI cyZ qb M1) (jmV (As := [.int (xs (x3 + 1).toNatClampNeg), .int (xs (x3 + 2).toNatClampNeg)]) (rest := [.int r]) ⟨hx, hb, hml, hown, hts⟩ (c_X8_fails_ l D cyI cyZ cyT qb H.size N (xs (x3 + 1).toNatClampNeg) (xs (x3 + 2).toNatClampNeg) M (r, M1) e2) (cwV 2 hts gL_law_X8_fails_ rfl rfl rfl (by decide +kernel) ⟨Nat.le_of_ble_eq_true rfl, Nat.le_of_ble_eq_true rfl⟩) hK (jPr hP) (jDr hD) rfl 8 0 rfl rfl rfl hl.1 (Nat.le_of_ble_eq_true rfl) dL_law_587 ⟨Nat.le_of_ble_eq_true rfl, Nat.le_of_ble_eq_true rfl⟩) hP hD hS hA rfl (fun H locs hP hD hS => ?_)
  refine lv_icmp_eq (tgt := 1098) hx hb dL_law_590 (by decide) (fun _ => ?_) (fun c => absurd rfl c)
  exact hk X M1 hRel1 H locs hP hD hS ls hl
set_option maxHeartbeats 4000000 in
set_option maxRecDepth 100000 in
theorem law_loss {p : Program} {l : Launch} {e : Env} {s : State} {m : MethodId} {below : List Frame} {meth : Method} {c : Code} {D : va_G} {cyI cyZ cyT : ClassId} {adK adV qa qb : Nat → Nat} {b L : Nat} {xs : Nat → Int32} {N : Nat} {Rel : BX → Mo → Prop} (C0 : lw_At p s m meth c b L xs) (hK : jK D cyI cyZ cyT s) (hZ : jStr adK adV (fun q : Nat => s.heap.size ≤ q) s s.heap) (x3 : Int32) (hin : ∀ k : Int32, k ≤ 5 → ¬ k < 0 → vp_in (x3 + k) L) (hR : ∀ (a1 : Int32) (X : BX) (M : Mo), Rel X M → ∃ (r : Int32) (M1 : Mo), f_X7_loss N a1 X = some r ∧ f_X8_loss N a1 M = some (r, M1) ∧ Rel X M1) (hk : ∀ (X : BX) (M : Mo), Rel X M → ∀ (H : Heap) (locs : List Loc), va_P D vwCl (wX cyI cyZ cyT qa X ++ wM cyI cyZ qb M) H → va_D (fun q : Nat => s.heap.size ≤ q) (wX cyI cyZ cyT qa X ++ wM cyI cyZ qb M) → va_S (fun q : Nat => s.heap.size ≤ q) s.heap H locs → ∀ (ls : Array Slot), lv_has ls 4 [(0, .ref b), (1, .ref (qa 0)), (2, .ref (qb 0)), (3, .int x3)] → W p l e room_1 s m #[Value.ref b] below meth c H locs 69 819 (lw_Z below #[Value.ref b] s) (F0 m 1098 ls [])) (X : BX) (M : Mo) (hRel : Rel X M) (H : Heap) (locs : List Loc) : va_P D vwCl (wX cyI cyZ cyT qa X ++ wM cyI cyZ qb M) H → va_D (fun q : Nat => s.heap.size ≤ q) (wX cyI cyZ cyT qa X ++ wM cyI cyZ qb M) → va_S (fun q : Nat => s.heap.size ≤ q) s.heap H locs → ∀ (ls : Array Slot), lv_has ls 4 [(0, .ref b), (1, .ref (qa 0)), (2, .ref (qb 0)), (3, .int x3)] → W p l e room_1 s m #[Value.ref b] below meth c H locs 69 819 (lw_Z below #[Value.ref b] s) (F0 m 595 ls []) := by
  obtain ⟨hx, hb, hr, hml, hown, hts, hX, hbl, hlocks, hgv⟩ := C0
  have hts := fun w h => hts w (wsL_law_in w h)
  have hA : ∀ q : Nat, s.heap.size ≤ q → (fun q : Nat => s.heap.size ≤ q) q := fun _ h => h
  have hbA : ¬ (fun q : Nat => s.heap.size ≤ q) b := Nat.not_le.mpr hbl
  intro hP hD hS ls hl
  obtain ⟨r, M1, e1, e2, hRel1⟩ := hR (xs (x3 + 1).toNatClampNeg) X M hRel
  refine lv_aload_n hx hb dL_law_595 rfl (lv_at hl 1 rfl) ?_
  refine lv_aload_n hx hb dL_law_596 rfl (lv_at hl 0 rfl) ?_
  refine lv_iload_n hx hb dL_law_597 rfl (lv_at hl 3 rfl) ?_
  refine lv_iconst (v := 1) hx hb dL_law_598 (by decide) ?_
  refine lv_iadd hx hb dL_law_599 ?_
  refine va_sld hx hb hX hbl hbA hS (hin 1 (by decide) (by decide)) dL_law_600 ?_
  refine jki (jrV (As := [.int (xs (x3 + 1).toNatClampNeg)]) (rest := []) ⟨hx, hb, hml, hown, hts⟩ (c_X7_loss l D cyI cyZ cyT qa N (xs (x3 + 1).toNatClampNeg) X r e1) (cwV 1 hts gL_law_X7_loss rfl rfl rfl (by decide +kernel) ⟨Nat.le_of_ble_eq_true rfl, Nat.le_of_ble_eq_true rfl⟩) hK (jPl hP) rfl 7 0 rfl rfl rfl hl.1 (Nat.le_of_ble_eq_true rfl) dL_law_601 ⟨Nat.le_of_ble_eq_true rfl, Nat.le_of_ble_eq_true rfl⟩) ?_
  refine lv_aload_n hx hb dL_law_604 rfl (lv_at hl 2 rfl) ?_
  refine lv_aload_n hx hb dL_law_605 rfl (lv_at hl 0 rfl) ?_
  refine lv_iload_n hx hb dL_law_606 rfl (lv_at hl 3 rfl) ?_
  refine lv_iconst (v := 1) hx hb dL_law_607 (by decide) ?_
  refine lv_iadd hx hb dL_law_608 ?_
  refine va_sld hx hb hX hbl hbA hS (hin 1 (by decide) (by decide)) dL_law_609 ?_
  refine jgiR (w1 := fun u : Mo => wM cyI cyZ qb u) (wn := wM cyI cyZ qb M1) (jmV (As := [.int (xs (x3 + 1).toNatClampNeg)]) (rest := [.int r]) ⟨hx, hb, hml, hown, hts⟩ (c_X8_loss l D cyI cyZ cyT qb H.size N (xs (x3 + 1).toNatClampNeg) M (r, M1) e2) (cwV 1 hts gL_law_X8_loss rfl rfl rfl (by decide +kernel) ⟨Nat.le_of_ble_eq_true rfl, Nat.le_of_ble_eq_true rfl⟩) hK (jPr hP) (jDr hD) rfl 8 0 rfl rfl rfl hl.1 (Nat.le_of_ble_eq_true rfl) dL_law_610 ⟨Nat.le_of_ble_eq_true rfl, Nat.le_of_ble_eq_true rfl⟩) hP hD hS hA rfl (fun H locs hP hD hS => ?_)
  refine lv_icmp_eq (tgt := 1098) hx hb dL_law_613 (by decide) (fun _ => ?_) (fun c => absurd rfl c)
  exact hk X M1 hRel1 H locs hP hD hS ls hl

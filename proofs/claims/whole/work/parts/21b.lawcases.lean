set_option maxHeartbeats 4000000 in
set_option maxRecDepth 100000 in
theorem law_write {p : Program} {l : Launch} {e : Env} {s : State} {m : MethodId} {below : List Frame} {meth : Method} {c : Code} {D : va_G} {cyI cyZ cyT : ClassId} {adK adV qa qb : Nat → Nat} {b L : Nat} {xs : Nat → Int32} {N : Nat} {Rel : BX → Mo → Prop} (C0 : lw_At p s m meth c b L xs) (hK : jK D cyI cyZ cyT s) (hZ : jStr adK adV (fun q : Nat => s.heap.size ≤ q) s s.heap) (x3 : Int32) (hin : ∀ k : Int32, k ≤ 5 → ¬ k < 0 → vp_in (x3 + k) L) (hR : ∀ (a1 : Int32) (X : BX) (M : Mo), Rel X M → ∃ (r : Int32) (X1 : BX) (M1 : Mo), f_X7_write a1 X = some (r, X1) ∧ f_X8_write a1 M = some (r, M1) ∧ Rel X1 M1) (hk : ∀ (X : BX) (M : Mo), Rel X M → ∀ (H : Heap) (locs : List Loc), va_P D vwCl (wX cyI cyZ cyT qa X ++ wM cyI cyZ qb M) H → va_D (fun q : Nat => s.heap.size ≤ q) (wX cyI cyZ cyT qa X ++ wM cyI cyZ qb M) → va_S (fun q : Nat => s.heap.size ≤ q) s.heap H locs → ∀ (ls : Array Slot), lv_has ls 4 [(0, .ref b), (1, .ref (qa 0)), (2, .ref (qb 0)), (3, .int x3)] → W p l e room_1 s m #[Value.ref b] below meth c H locs 69 819 (lw_Z below #[Value.ref b] s) (F0 m 1098 ls [])) (X : BX) (M : Mo) (hRel : Rel X M) (H : Heap) (locs : List Loc) : va_P D vwCl (wX cyI cyZ cyT qa X ++ wM cyI cyZ qb M) H → va_D (fun q : Nat => s.heap.size ≤ q) (wX cyI cyZ cyT qa X ++ wM cyI cyZ qb M) → va_S (fun q : Nat => s.heap.size ≤ q) s.heap H locs → ∀ (ls : Array Slot), lv_has ls 4 [(0, .ref b), (1, .ref (qa 0)), (2, .ref (qb 0)), (3, .int x3)] → W p l e room_1 s m #[Value.ref b] below meth c H locs 69 819 (lw_Z below #[Value.ref b] s) (F0 m 184 ls []) := by
  obtain ⟨hx, hb, hr, hml, hown, hts, hX, hbl, hlocks, hgv⟩ := C0
  have hts := fun w h => hts w (wsL_law_in w h)
  have hA : ∀ q : Nat, s.heap.size ≤ q → (fun q : Nat => s.heap.size ≤ q) q := fun _ h => h
  have hbA : ¬ (fun q : Nat => s.heap.size ≤ q) b := Nat.not_le.mpr hbl
  intro hP hD hS ls hl
  obtain ⟨r, X1, M1, e1, e2, hRel1⟩ := hR (xs (x3 + 1).toNatClampNeg) X M hRel
  refine lv_aload_n hx hb dL_law_184 rfl (lv_at hl 1 rfl) ?_
  refine lv_aload_n hx hb dL_law_185 rfl (lv_at hl 0 rfl) ?_
  refine lv_iload_n hx hb dL_law_186 rfl (lv_at hl 3 rfl) ?_
  refine lv_iconst (v := 1) hx hb dL_law_187 (by decide) ?_
  refine lv_iadd hx hb dL_law_188 ?_
  refine va_sld hx hb hX hbl hbA hS (hin 1 (by decide) (by decide)) dL_law_189 ?_
  refine jgiL (w1 := fun u : BX => wX cyI cyZ cyT qa u) (wn := wX cyI cyZ cyT qa X1) (jmV (As := [.int (xs (x3 + 1).toNatClampNeg)]) (rest := []) ⟨hx, hb, hml, hown, hts⟩ (c_X7_write l D cyI cyZ cyT qa H.size (xs (x3 + 1).toNatClampNeg) X (r, X1) e1) (cwV 1 hts gL_law_X7_write rfl rfl rfl (by decide +kernel) ⟨Nat.le_of_ble_eq_true rfl, Nat.le_of_ble_eq_true rfl⟩) hK (jPl hP) (jDl hD) rfl 7 0 rfl rfl rfl hl.1 (Nat.le_of_ble_eq_true rfl) dL_law_190 ⟨Nat.le_of_ble_eq_true rfl, Nat.le_of_ble_eq_true rfl⟩) hP hD hS hA rfl (fun H locs hP hD hS => ?_)
  refine lv_aload_n hx hb dL_law_193 rfl (lv_at hl 2 rfl) ?_
  refine lv_aload_n hx hb dL_law_194 rfl (lv_at hl 0 rfl) ?_
  refine lv_iload_n hx hb dL_law_195 rfl (lv_at hl 3 rfl) ?_
  refine lv_iconst (v := 1) hx hb dL_law_196 (by decide) ?_
  refine lv_iadd hx hb dL_law_197 ?_
  refine va_sld hx hb hX hbl hbA hS (hin 1 (by decide) (by decide)) dL_law_198 ?_
  refine jgiR (w1 := fun u : Mo => wM cyI cyZ qb u) (wn := wM cyI cyZ qb M1) (jmV (As := [.int (xs (x3 + 1).toNatClampNeg)]) (rest := [.int (r, X1).1]) ⟨hx, hb, hml, hown, hts⟩ (c_X8_write l D cyI cyZ cyT qb H.size (xs (x3 + 1).toNatClampNeg) M (r, M1) e2) (cwV 1 hts gL_law_X8_write rfl rfl rfl (by decide +kernel) ⟨Nat.le_of_ble_eq_true rfl, Nat.le_of_ble_eq_true rfl⟩) hK (jPr hP) (jDr hD) rfl 8 0 rfl rfl rfl hl.1 (Nat.le_of_ble_eq_true rfl) dL_law_199 ⟨Nat.le_of_ble_eq_true rfl, Nat.le_of_ble_eq_true rfl⟩) hP hD hS hA rfl (fun H locs hP hD hS => ?_)
  refine lv_icmp_eq (tgt := 1098) hx hb dL_law_202 (by decide) (fun _ => ?_) (fun c => absurd rfl c)
  exact hk X1 M1 hRel1 H locs hP hD hS ls hl
set_option maxHeartbeats 4000000 in
set_option maxRecDepth 100000 in
theorem law_erase {p : Program} {l : Launch} {e : Env} {s : State} {m : MethodId} {below : List Frame} {meth : Method} {c : Code} {D : va_G} {cyI cyZ cyT : ClassId} {adK adV qa qb : Nat → Nat} {b L : Nat} {xs : Nat → Int32} {N : Nat} {Rel : BX → Mo → Prop} (C0 : lw_At p s m meth c b L xs) (hK : jK D cyI cyZ cyT s) (hZ : jStr adK adV (fun q : Nat => s.heap.size ≤ q) s s.heap) (x3 : Int32) (hin : ∀ k : Int32, k ≤ 5 → ¬ k < 0 → vp_in (x3 + k) L) (hR : ∀ (X : BX) (M : Mo), Rel X M → ∃ (r : Int32) (X1 : BX) (M1 : Mo), f_X7_erase X = some (r, X1) ∧ f_X8_erase M = some (r, M1) ∧ Rel X1 M1) (hk : ∀ (X : BX) (M : Mo), Rel X M → ∀ (H : Heap) (locs : List Loc), va_P D vwCl (wX cyI cyZ cyT qa X ++ wM cyI cyZ qb M) H → va_D (fun q : Nat => s.heap.size ≤ q) (wX cyI cyZ cyT qa X ++ wM cyI cyZ qb M) → va_S (fun q : Nat => s.heap.size ≤ q) s.heap H locs → ∀ (ls : Array Slot), lv_has ls 4 [(0, .ref b), (1, .ref (qa 0)), (2, .ref (qb 0)), (3, .int x3)] → W p l e room_1 s m #[Value.ref b] below meth c H locs 69 819 (lw_Z below #[Value.ref b] s) (F0 m 1098 ls [])) (X : BX) (M : Mo) (hRel : Rel X M) (H : Heap) (locs : List Loc) : va_P D vwCl (wX cyI cyZ cyT qa X ++ wM cyI cyZ qb M) H → va_D (fun q : Nat => s.heap.size ≤ q) (wX cyI cyZ cyT qa X ++ wM cyI cyZ qb M) → va_S (fun q : Nat => s.heap.size ≤ q) s.heap H locs → ∀ (ls : Array Slot), lv_has ls 4 [(0, .ref b), (1, .ref (qa 0)), (2, .ref (qb 0)), (3, .int x3)] → W p l e room_1 s m #[Value.ref b] below meth c H locs 69 819 (lw_Z below #[Value.ref b] s) (F0 m 207 ls []) := by
  obtain ⟨hx, hb, hr, hml, hown, hts, hX, hbl, hlocks, hgv⟩ := C0
  have hts := fun w h => hts w (wsL_law_in w h)
  have hA : ∀ q : Nat, s.heap.size ≤ q → (fun q : Nat => s.heap.size ≤ q) q := fun _ h => h
  have hbA : ¬ (fun q : Nat => s.heap.size ≤ q) b := Nat.not_le.mpr hbl
  intro hP hD hS ls hl
  obtain ⟨r, X1, M1, e1, e2, hRel1⟩ := hR  X M hRel
  refine lv_aload_n hx hb dL_law_207 rfl (lv_at hl 1 rfl) ?_
  refine jgiL (w1 := fun u : BX => wX cyI cyZ cyT qa u) (wn := wX cyI cyZ cyT qa X1) (jmV (As := []) (rest := []) ⟨hx, hb, hml, hown, hts⟩ (c_X7_erase l D cyI cyZ cyT qa H.size X (r, X1) e1) (cwV 0 hts gL_law_X7_erase rfl rfl rfl (by decide +kernel) ⟨Nat.le_of_ble_eq_true rfl, Nat.le_of_ble_eq_true rfl⟩) hK (jPl hP) (jDl hD) rfl 7 0 rfl rfl rfl hl.1 (Nat.le_of_ble_eq_true rfl) dL_law_208 ⟨Nat.le_of_ble_eq_true rfl, Nat.le_of_ble_eq_true rfl⟩) hP hD hS hA rfl (fun H locs hP hD hS => ?_)
  refine lv_aload_n hx hb dL_law_211 rfl (lv_at hl 2 rfl) ?_
  refine jgiR (w1 := fun u : Mo => wM cyI cyZ qb u) (wn := wM cyI cyZ qb M1) (jmV (As := []) (rest := [.int (r, X1).1]) ⟨hx, hb, hml, hown, hts⟩ (c_X8_erase l D cyI cyZ cyT qb H.size M (r, M1) e2) (cwV 0 hts gL_law_X8_erase rfl rfl rfl (by decide +kernel) ⟨Nat.le_of_ble_eq_true rfl, Nat.le_of_ble_eq_true rfl⟩) hK (jPr hP) (jDr hD) rfl 8 0 rfl rfl rfl hl.1 (Nat.le_of_ble_eq_true rfl) dL_law_212 ⟨Nat.le_of_ble_eq_true rfl, Nat.le_of_ble_eq_true rfl⟩) hP hD hS hA rfl (fun H locs hP hD hS => ?_)
  refine lv_icmp_eq (tgt := 1098) hx hb dL_law_215 (by decide) (fun _ => ?_) (fun c => absurd rfl c)
  exact hk X1 M1 hRel1 H locs hP hD hS ls hl
set_option maxHeartbeats 4000000 in
set_option maxRecDepth 100000 in
theorem law_fault {p : Program} {l : Launch} {e : Env} {s : State} {m : MethodId} {below : List Frame} {meth : Method} {c : Code} {D : va_G} {cyI cyZ cyT : ClassId} {adK adV qa qb : Nat → Nat} {b L : Nat} {xs : Nat → Int32} {N : Nat} {Rel : BX → Mo → Prop} (C0 : lw_At p s m meth c b L xs) (hK : jK D cyI cyZ cyT s) (hZ : jStr adK adV (fun q : Nat => s.heap.size ≤ q) s s.heap) (x3 : Int32) (hin : ∀ k : Int32, k ≤ 5 → ¬ k < 0 → vp_in (x3 + k) L) (hR : ∀ (X : BX) (M : Mo), Rel X M → ∃ (r : Int32) (X1 : BX) (M1 : Mo), f_X7_fault N X = some (r, X1) ∧ f_X8_fault N M = some (r, M1) ∧ Rel X1 M1) (hk : ∀ (X : BX) (M : Mo), Rel X M → ∀ (H : Heap) (locs : List Loc), va_P D vwCl (wX cyI cyZ cyT qa X ++ wM cyI cyZ qb M) H → va_D (fun q : Nat => s.heap.size ≤ q) (wX cyI cyZ cyT qa X ++ wM cyI cyZ qb M) → va_S (fun q : Nat => s.heap.size ≤ q) s.heap H locs → ∀ (ls : Array Slot), lv_has ls 4 [(0, .ref b), (1, .ref (qa 0)), (2, .ref (qb 0)), (3, .int x3)] → W p l e room_1 s m #[Value.ref b] below meth c H locs 69 819 (lw_Z below #[Value.ref b] s) (F0 m 1098 ls [])) (X : BX) (M : Mo) (hRel : Rel X M) (H : Heap) (locs : List Loc) : va_P D vwCl (wX cyI cyZ cyT qa X ++ wM cyI cyZ qb M) H → va_D (fun q : Nat => s.heap.size ≤ q) (wX cyI cyZ cyT qa X ++ wM cyI cyZ qb M) → va_S (fun q : Nat => s.heap.size ≤ q) s.heap H locs → ∀ (ls : Array Slot), lv_has ls 4 [(0, .ref b), (1, .ref (qa 0)), (2, .ref (qb 0)), (3, .int x3)] → W p l e room_1 s m #[Value.ref b] below meth c H locs 69 819 (lw_Z below #[Value.ref b] s) (F0 m 220 ls []) := by
  obtain ⟨hx, hb, hr, hml, hown, hts, hX, hbl, hlocks, hgv⟩ := C0
  have hts := fun w h => hts w (wsL_law_in w h)
  have hA : ∀ q : Nat, s.heap.size ≤ q → (fun q : Nat => s.heap.size ≤ q) q := fun _ h => h
  have hbA : ¬ (fun q : Nat => s.heap.size ≤ q) b := Nat.not_le.mpr hbl
  intro hP hD hS ls hl
  obtain ⟨r, X1, M1, e1, e2, hRel1⟩ := hR  X M hRel
  refine lv_aload_n hx hb dL_law_220 rfl (lv_at hl 1 rfl) ?_
  refine jgiL (w1 := fun u : BX => wX cyI cyZ cyT qa u) (wn := wX cyI cyZ cyT qa X1) (jmVs (As := []) (rest := []) ⟨hx, hb, hml, hown, hts⟩ (c_X7_fault l D cyI cyZ cyT adK adV qa H.size N X (r, X1) e1) (cwV 0 hts gL_law_X7_fault rfl rfl rfl (by decide +kernel) ⟨Nat.le_of_ble_eq_true rfl, Nat.le_of_ble_eq_true rfl⟩) hK (jPl hP) (jDl hD) ((hZ.kept hS.2.1).narrow (jFl hD hS hA)) rfl 7 0 rfl rfl rfl hl.1 (Nat.le_of_ble_eq_true rfl) dL_law_221 ⟨Nat.le_of_ble_eq_true rfl, Nat.le_of_ble_eq_true rfl⟩) hP hD hS hA rfl (fun H locs hP hD hS => ?_)
  refine lv_aload_n hx hb dL_law_224 rfl (lv_at hl 2 rfl) ?_
  refine jgiR (w1 := fun u : Mo => wM cyI cyZ qb u) (wn := wM cyI cyZ qb M1) (jmV (As := []) (rest := [.int (r, X1).1]) ⟨hx, hb, hml, hown, hts⟩ (c_X8_fault l D cyI cyZ cyT qb H.size N M (r, M1) e2) (cwV 0 hts gL_law_X8_fault rfl rfl rfl (by decide +kernel) ⟨Nat.le_of_ble_eq_true rfl, Nat.le_of_ble_eq_true rfl⟩) hK (jPr hP) (jDr hD) rfl 8 0 rfl rfl rfl hl.1 (Nat.le_of_ble_eq_true rfl) dL_law_225 ⟨Nat.le_of_ble_eq_true rfl, Nat.le_of_ble_eq_true rfl⟩) hP hD hS hA rfl (fun H locs hP hD hS => ?_)
  refine lv_icmp_eq (tgt := 1098) hx hb dL_law_228 (by decide) (fun _ => ?_) (fun c => absurd rfl c)
  exact hk X1 M1 hRel1 H locs hP hD hS ls hl
set_option maxHeartbeats 4000000 in
set_option maxRecDepth 100000 in
theorem law_house {p : Program} {l : Launch} {e : Env} {s : State} {m : MethodId} {below : List Frame} {meth : Method} {c : Code} {D : va_G} {cyI cyZ cyT : ClassId} {adK adV qa qb : Nat → Nat} {b L : Nat} {xs : Nat → Int32} {N : Nat} {Rel : BX → Mo → Prop} (C0 : lw_At p s m meth c b L xs) (hK : jK D cyI cyZ cyT s) (hZ : jStr adK adV (fun q : Nat => s.heap.size ≤ q) s s.heap) (x3 : Int32) (hin : ∀ k : Int32, k ≤ 5 → ¬ k < 0 → vp_in (x3 + k) L) (hR : ∀ (X : BX) (M : Mo), Rel X M → ∃ (r : Int32) (X1 : BX) (M1 : Mo), f_X7_house N X = some (r, X1) ∧ f_X8_house N M = some (r, M1) ∧ Rel X1 M1) (hk : ∀ (X : BX) (M : Mo), Rel X M → ∀ (H : Heap) (locs : List Loc), va_P D vwCl (wX cyI cyZ cyT qa X ++ wM cyI cyZ qb M) H → va_D (fun q : Nat => s.heap.size ≤ q) (wX cyI cyZ cyT qa X ++ wM cyI cyZ qb M) → va_S (fun q : Nat => s.heap.size ≤ q) s.heap H locs → ∀ (ls : Array Slot), lv_has ls 4 [(0, .ref b), (1, .ref (qa 0)), (2, .ref (qb 0)), (3, .int x3)] → W p l e room_1 s m #[Value.ref b] below meth c H locs 69 819 (lw_Z below #[Value.ref b] s) (F0 m 1098 ls [])) (X : BX) (M : Mo) (hRel : Rel X M) (H : Heap) (locs : List Loc) : va_P D vwCl (wX cyI cyZ cyT qa X ++ wM cyI cyZ qb M) H → va_D (fun q : Nat => s.heap.size ≤ q) (wX cyI cyZ cyT qa X ++ wM cyI cyZ qb M) → va_S (fun q : Nat => s.heap.size ≤ q) s.heap H locs → ∀ (ls : Array Slot), lv_has ls 4 [(0, .ref b), (1, .ref (qa 0)), (2, .ref (qb 0)), (3, .int x3)] → W p l e room_1 s m #[Value.ref b] below meth c H locs 69 819 (lw_Z below #[Value.ref b] s) (F0 m 233 ls []) := by
  obtain ⟨hx, hb, hr, hml, hown, hts, hX, hbl, hlocks, hgv⟩ := C0
  have hts := fun w h => hts w (wsL_law_in w h)
  have hA : ∀ q : Nat, s.heap.size ≤ q → (fun q : Nat => s.heap.size ≤ q) q := fun _ h => h
  have hbA : ¬ (fun q : Nat => s.heap.size ≤ q) b := Nat.not_le.mpr hbl
  intro hP hD hS ls hl
  obtain ⟨r, X1, M1, e1, e2, hRel1⟩ := hR  X M hRel
  refine lv_aload_n hx hb dL_law_233 rfl (lv_at hl 1 rfl) ?_
  refine jgiL (w1 := fun u : BX => wX cyI cyZ cyT qa u) (wn := wX cyI cyZ cyT qa X1) (jmVs (As := []) (rest := []) ⟨hx, hb, hml, hown, hts⟩ (c_X7_house l D cyI cyZ cyT adK adV qa H.size N X (r, X1) e1) (cwV 0 hts gL_law_X7_house rfl rfl rfl (by decide +kernel) ⟨Nat.le_of_ble_eq_true rfl, Nat.le_of_ble_eq_true rfl⟩) hK (jPl hP) (jDl hD) ((hZ.kept hS.2.1).narrow (jFl hD hS hA)) rfl 7 0 rfl rfl rfl hl.1 (Nat.le_of_ble_eq_true rfl) dL_law_234 ⟨Nat.le_of_ble_eq_true rfl, Nat.le_of_ble_eq_true rfl⟩) hP hD hS hA rfl (fun H locs hP hD hS => ?_)
  refine lv_aload_n hx hb dL_law_237 rfl (lv_at hl 2 rfl) ?_
  refine jgiR (w1 := fun u : Mo => wM cyI cyZ qb u) (wn := wM cyI cyZ qb M1) (jmV (As := []) (rest := [.int (r, X1).1]) ⟨hx, hb, hml, hown, hts⟩ (c_X8_house l D cyI cyZ cyT qb H.size N M (r, M1) e2) (cwV 0 hts gL_law_X8_house rfl rfl rfl (by decide +kernel) ⟨Nat.le_of_ble_eq_true rfl, Nat.le_of_ble_eq_true rfl⟩) hK (jPr hP) (jDr hD) rfl 8 0 rfl rfl rfl hl.1 (Nat.le_of_ble_eq_true rfl) dL_law_238 ⟨Nat.le_of_ble_eq_true rfl, Nat.le_of_ble_eq_true rfl⟩) hP hD hS hA rfl (fun H locs hP hD hS => ?_)
  refine lv_icmp_eq (tgt := 1098) hx hb dL_law_241 (by decide) (fun _ => ?_) (fun c => absurd rfl c)
  exact hk X1 M1 hRel1 H locs hP hD hS ls hl
set_option maxHeartbeats 4000000 in
set_option maxRecDepth 100000 in
theorem law_mouse {p : Program} {l : Launch} {e : Env} {s : State} {m : MethodId} {below : List Frame} {meth : Method} {c : Code} {D : va_G} {cyI cyZ cyT : ClassId} {adK adV qa qb : Nat → Nat} {b L : Nat} {xs : Nat → Int32} {N : Nat} {Rel : BX → Mo → Prop} (C0 : lw_At p s m meth c b L xs) (hK : jK D cyI cyZ cyT s) (hZ : jStr adK adV (fun q : Nat => s.heap.size ≤ q) s s.heap) (x3 : Int32) (hin : ∀ k : Int32, k ≤ 5 → ¬ k < 0 → vp_in (x3 + k) L) (hR : ∀ (a1 a2 : Int32) (X : BX) (M : Mo), Rel X M → ∃ (r : Int32) (M1 : Mo), f_X7_mouse N a1 a2 X = some r ∧ f_X8_mouse N a1 a2 M = some (r, M1) ∧ Rel X M1) (hk : ∀ (X : BX) (M : Mo), Rel X M → ∀ (H : Heap) (locs : List Loc), va_P D vwCl (wX cyI cyZ cyT qa X ++ wM cyI cyZ qb M) H → va_D (fun q : Nat => s.heap.size ≤ q) (wX cyI cyZ cyT qa X ++ wM cyI cyZ qb M) → va_S (fun q : Nat => s.heap.size ≤ q) s.heap H locs → ∀ (ls : Array Slot), lv_has ls 4 [(0, .ref b), (1, .ref (qa 0)), (2, .ref (qb 0)), (3, .int x3)] → W p l e room_1 s m #[Value.ref b] below meth c H locs 69 819 (lw_Z below #[Value.ref b] s) (F0 m 1098 ls [])) (X : BX) (M : Mo) (hRel : Rel X M) (H : Heap) (locs : List Loc) : va_P D vwCl (wX cyI cyZ cyT qa X ++ wM cyI cyZ qb M) H → va_D (fun q : Nat => s.heap.size ≤ q) (wX cyI cyZ cyT qa X ++ wM cyI cyZ qb M) → va_S (fun q : Nat => s.heap.size ≤ q) s.heap H locs → ∀ (ls : Array Slot), lv_has ls 4 [(0, .ref b), (1, .ref (qa 0)), (2, .ref (qb 0)), (3, .int x3)] → W p l e room_1 s m #[Value.ref b] below meth c H locs 69 819 (lw_Z below #[Value.ref b] s) (F0 m 246 ls []) := by
  obtain ⟨hx, hb, hr, hml, hown, hts, hX, hbl, hlocks, hgv⟩ := C0
  have hts := fun w h => hts w (wsL_law_in w h)
  have hA : ∀ q : Nat, s.heap.size ≤ q → (fun q : Nat => s.heap.size ≤ q) q := fun _ h => h
  have hbA : ¬ (fun q : Nat => s.heap.size ≤ q) b := Nat.not_le.mpr hbl
  intro hP hD hS ls hl
  obtain ⟨r, M1, e1, e2, hRel1⟩ := hR (xs (x3 + 1).toNatClampNeg) (xs (x3 + 2).toNatClampNeg) X M hRel
  refine lv_aload_n hx hb dL_law_246 rfl (lv_at hl 1 rfl) ?_
  refine lv_aload_n hx hb dL_law_247 rfl (lv_at hl 0 rfl) ?_
  refine lv_iload_n hx hb dL_law_248 rfl (lv_at hl 3 rfl) ?_
  refine lv_iconst (v := 1) hx hb dL_law_249 (by decide) ?_
  refine lv_iadd hx hb dL_law_250 ?_
  refine va_sld hx hb hX hbl hbA hS (hin 1 (by decide) (by decide)) dL_law_251 ?_
  refine lv_aload_n hx hb dL_law_252 rfl (lv_at hl 0 rfl) ?_
  refine lv_iload_n hx hb dL_law_253 rfl (lv_at hl 3 rfl) ?_
  refine lv_iconst (v := 2) hx hb dL_law_254 (by decide) ?_
  refine lv_iadd hx hb dL_law_255 ?_
  refine va_sld hx hb hX hbl hbA hS (hin 2 (by decide) (by decide)) dL_law_256 ?_
  refine jki (jrV (As := [.int (xs (x3 + 1).toNatClampNeg), .int (xs (x3 + 2).toNatClampNeg)]) (rest := []) ⟨hx, hb, hml, hown, hts⟩ (c_X7_mouse l D cyI cyZ cyT qa N (xs (x3 + 1).toNatClampNeg) (xs (x3 + 2).toNatClampNeg) X r e1) (cwV 2 hts gL_law_X7_mouse rfl rfl rfl (by decide +kernel) ⟨Nat.le_of_ble_eq_true rfl, Nat.le_of_ble_eq_true rfl⟩) hK (jPl hP) rfl 7 0 rfl rfl rfl hl.1 (Nat.le_of_ble_eq_true rfl) dL_law_257 ⟨Nat.le_of_ble_eq_true rfl, Nat.le_of_ble_eq_true rfl⟩) ?_
  refine lv_aload_n hx hb dL_law_260 rfl (lv_at hl 2 rfl) ?_
  refine lv_aload_n hx hb dL_law_261 rfl (lv_at hl 0 rfl) ?_
  refine lv_iload_n hx hb dL_law_262 rfl (lv_at hl 3 rfl) ?_
  refine lv_iconst (v := 1) hx hb dL_law_263 (by decide) ?_
  refine lv_iadd hx hb dL_law_264 ?_
  refine va_sld hx hb hX hbl hbA hS (hin 1 (by decide) (by decide)) dL_law_265 ?_
  refine lv_aload_n hx hb dL_law_266 rfl (lv_at hl 0 rfl) ?_
  refine lv_iload_n hx hb dL_law_267 rfl (lv_at hl 3 rfl) ?_
  refine lv_iconst (v := 2) hx hb dL_law_268 (by decide) ?_
  refine lv_iadd hx hb dL_law_269 ?_
  refine va_sld hx hb hX hbl hbA hS (hin 2 (by decide) (by decide)) dL_law_270 ?_
  refine jgiR (w1 := fun u : Mo => wM cyI cyZ qb u) (wn := wM cyI cyZ qb M1) (jmV (As := [.int (xs (x3 + 1).toNatClampNeg), .int (xs (x3 + 2).toNatClampNeg)]) (rest := [.int r]) ⟨hx, hb, hml, hown, hts⟩ (c_X8_mouse l D cyI cyZ cyT qb H.size N (xs (x3 + 1).toNatClampNeg) (xs (x3 + 2).toNatClampNeg) M (r, M1) e2) (cwV 2 hts gL_law_X8_mouse rfl rfl rfl (by decide +kernel) ⟨Nat.le_of_ble_eq_true rfl, Nat.le_of_ble_eq_true rfl⟩) hK (jPr hP) (jDr hD) rfl 8 0 rfl rfl rfl hl.1 (Nat.le_of_ble_eq_true rfl) dL_law_271 ⟨Nat.le_of_ble_eq_true rfl, Nat.le_of_ble_eq_true rfl⟩) hP hD hS hA rfl (fun H locs hP hD hS => ?_)
  refine lv_icmp_eq (tgt := 1098) hx hb dL_law_274 (by decide) (fun _ => ?_) (fun c => absurd rfl c)
  exact hk X M1 hRel1 H locs hP hD hS ls hl
set_option maxHeartbeats 4000000 in
set_option maxRecDepth 100000 in
theorem law_step {p : Program} {l : Launch} {e : Env} {s : State} {m : MethodId} {below : List Frame} {meth : Method} {c : Code} {D : va_G} {cyI cyZ cyT : ClassId} {adK adV qa qb : Nat → Nat} {b L : Nat} {xs : Nat → Int32} {N : Nat} {Rel : BX → Mo → Prop} (C0 : lw_At p s m meth c b L xs) (hK : jK D cyI cyZ cyT s) (hZ : jStr adK adV (fun q : Nat => s.heap.size ≤ q) s s.heap) (x3 : Int32) (hin : ∀ k : Int32, k ≤ 5 → ¬ k < 0 → vp_in (x3 + k) L) (hR : ∀ (a1 a2 : Int32) (X : BX) (M : Mo), Rel X M → ∃ (r : Int32) (M1 : Mo), f_X7_step a1 a2 X = some r ∧ f_X8_step a1 a2 M = some (r, M1) ∧ Rel X M1) (hk : ∀ (X : BX) (M : Mo), Rel X M → ∀ (H : Heap) (locs : List Loc), va_P D vwCl (wX cyI cyZ cyT qa X ++ wM cyI cyZ qb M) H → va_D (fun q : Nat => s.heap.size ≤ q) (wX cyI cyZ cyT qa X ++ wM cyI cyZ qb M) → va_S (fun q : Nat => s.heap.size ≤ q) s.heap H locs → ∀ (ls : Array Slot), lv_has ls 4 [(0, .ref b), (1, .ref (qa 0)), (2, .ref (qb 0)), (3, .int x3)] → W p l e room_1 s m #[Value.ref b] below meth c H locs 69 819 (lw_Z below #[Value.ref b] s) (F0 m 1098 ls [])) (X : BX) (M : Mo) (hRel : Rel X M) (H : Heap) (locs : List Loc) : va_P D vwCl (wX cyI cyZ cyT qa X ++ wM cyI cyZ qb M) H → va_D (fun q : Nat => s.heap.size ≤ q) (wX cyI cyZ cyT qa X ++ wM cyI cyZ qb M) → va_S (fun q : Nat => s.heap.size ≤ q) s.heap H locs → ∀ (ls : Array Slot), lv_has ls 4 [(0, .ref b), (1, .ref (qa 0)), (2, .ref (qb 0)), (3, .int x3)] → W p l e room_1 s m #[Value.ref b] below meth c H locs 69 819 (lw_Z below #[Value.ref b] s) (F0 m 279 ls []) := by
  obtain ⟨hx, hb, hr, hml, hown, hts, hX, hbl, hlocks, hgv⟩ := C0
  have hts := fun w h => hts w (wsL_law_in w h)
  have hA : ∀ q : Nat, s.heap.size ≤ q → (fun q : Nat => s.heap.size ≤ q) q := fun _ h => h
  have hbA : ¬ (fun q : Nat => s.heap.size ≤ q) b := Nat.not_le.mpr hbl
  intro hP hD hS ls hl
  obtain ⟨r, M1, e1, e2, hRel1⟩ := hR (xs (x3 + 1).toNatClampNeg) (xs (x3 + 2).toNatClampNeg) X M hRel
  refine lv_aload_n hx hb dL_law_279 rfl (lv_at hl 1 rfl) ?_
  refine lv_aload_n hx hb dL_law_280 rfl (lv_at hl 0 rfl) ?_
  refine lv_iload_n hx hb dL_law_281 rfl (lv_at hl 3 rfl) ?_
  refine lv_iconst (v := 1) hx hb dL_law_282 (by decide) ?_
  refine lv_iadd hx hb dL_law_283 ?_
  refine va_sld hx hb hX hbl hbA hS (hin 1 (by decide) (by decide)) dL_law_284 ?_
  refine lv_aload_n hx hb dL_law_285 rfl (lv_at hl 0 rfl) ?_
  refine lv_iload_n hx hb dL_law_286 rfl (lv_at hl 3 rfl) ?_
  refine lv_iconst (v := 2) hx hb dL_law_287 (by decide) ?_
  refine lv_iadd hx hb dL_law_288 ?_
  refine va_sld hx hb hX hbl hbA hS (hin 2 (by decide) (by decide)) dL_law_289 ?_
  refine jki (jrV (As := [.int (xs (x3 + 1).toNatClampNeg), .int (xs (x3 + 2).toNatClampNeg)]) (rest := []) ⟨hx, hb, hml, hown, hts⟩ (c_X7_step l D cyI cyZ cyT qa (xs (x3 + 1).toNatClampNeg) (xs (x3 + 2).toNatClampNeg) X r e1) (cwV 2 hts gL_law_X7_step rfl rfl rfl (by decide +kernel) ⟨Nat.le_of_ble_eq_true rfl, Nat.le_of_ble_eq_true rfl⟩) hK (jPl hP) rfl 7 0 rfl rfl rfl hl.1 (Nat.le_of_ble_eq_true rfl) dL_law_290 ⟨Nat.le_of_ble_eq_true rfl, Nat.le_of_ble_eq_true rfl⟩) ?_
  refine lv_aload_n hx hb dL_law_293 rfl (lv_at hl 2 rfl) ?_
  refine lv_aload_n hx hb dL_law_294 rfl (lv_at hl 0 rfl) ?_
  refine lv_iload_n hx hb dL_law_295 rfl (lv_at hl 3 rfl) ?_
  refine lv_iconst (v := 1) hx hb dL_law_296 (by decide) ?_
  refine lv_iadd hx hb dL_law_297 ?_
  refine va_sld hx hb hX hbl hbA hS (hin 1 (by decide) (by decide)) dL_law_298 ?_
  refine lv_aload_n hx hb dL_law_299 rfl (lv_at hl 0 rfl) ?_
  refine lv_iload_n hx hb dL_law_300 rfl (lv_at hl 3 rfl) ?_
  refine lv_iconst (v := 2) hx hb dL_law_301 (by decide) ?_
  refine lv_iadd hx hb dL_law_302 ?_
  refine va_sld hx hb hX hbl hbA hS (hin 2 (by decide) (by decide)) dL_law_303 ?_
  refine jgiR (w1 := fun u : Mo => wM cyI cyZ qb u) (wn := wM cyI cyZ qb M1) (jmV (As := [.int (xs (x3 + 1).toNatClampNeg), .int (xs (x3 + 2).toNatClampNeg)]) (rest := [.int r]) ⟨hx, hb, hml, hown, hts⟩ (c_X8_step l D cyI cyZ cyT qb H.size (xs (x3 + 1).toNatClampNeg) (xs (x3 + 2).toNatClampNeg) M (r, M1) e2) (cwV 2 hts gL_law_X8_step rfl rfl rfl (by decide +kernel) ⟨Nat.le_of_ble_eq_true rfl, Nat.le_of_ble_eq_true rfl⟩) hK (jPr hP) (jDr hD) rfl 8 0 rfl rfl rfl hl.1 (Nat.le_of_ble_eq_true rfl) dL_law_304 ⟨Nat.le_of_ble_eq_true rfl, Nat.le_of_ble_eq_true rfl⟩) hP hD hS hA rfl (fun H locs hP hD hS => ?_)
  refine lv_icmp_eq (tgt := 1098) hx hb dL_law_307 (by decide) (fun _ => ?_) (fun c => absurd rfl c)
  exact hk X M1 hRel1 H locs hP hD hS ls hl
set_option maxHeartbeats 4000000 in
set_option maxRecDepth 100000 in
theorem law_rat {p : Program} {l : Launch} {e : Env} {s : State} {m : MethodId} {below : List Frame} {meth : Method} {c : Code} {D : va_G} {cyI cyZ cyT : ClassId} {adK adV qa qb : Nat → Nat} {b L : Nat} {xs : Nat → Int32} {N : Nat} {Rel : BX → Mo → Prop} (C0 : lw_At p s m meth c b L xs) (hK : jK D cyI cyZ cyT s) (hZ : jStr adK adV (fun q : Nat => s.heap.size ≤ q) s s.heap) (x3 : Int32) (hin : ∀ k : Int32, k ≤ 5 → ¬ k < 0 → vp_in (x3 + k) L) (hR : ∀ (a1 a2 : Int32) (X : BX) (M : Mo), Rel X M → ∃ (r : Int32) (M1 : Mo), f_X7_rat a1 a2 X = some r ∧ f_X8_rat a1 a2 M = some (r, M1) ∧ Rel X M1) (hk : ∀ (X : BX) (M : Mo), Rel X M → ∀ (H : Heap) (locs : List Loc), va_P D vwCl (wX cyI cyZ cyT qa X ++ wM cyI cyZ qb M) H → va_D (fun q : Nat => s.heap.size ≤ q) (wX cyI cyZ cyT qa X ++ wM cyI cyZ qb M) → va_S (fun q : Nat => s.heap.size ≤ q) s.heap H locs → ∀ (ls : Array Slot), lv_has ls 4 [(0, .ref b), (1, .ref (qa 0)), (2, .ref (qb 0)), (3, .int x3)] → W p l e room_1 s m #[Value.ref b] below meth c H locs 69 819 (lw_Z below #[Value.ref b] s) (F0 m 1098 ls [])) (X : BX) (M : Mo) (hRel : Rel X M) (H : Heap) (locs : List Loc) : va_P D vwCl (wX cyI cyZ cyT qa X ++ wM cyI cyZ qb M) H → va_D (fun q : Nat => s.heap.size ≤ q) (wX cyI cyZ cyT qa X ++ wM cyI cyZ qb M) → va_S (fun q : Nat => s.heap.size ≤ q) s.heap H locs → ∀ (ls : Array Slot), lv_has ls 4 [(0, .ref b), (1, .ref (qa 0)), (2, .ref (qb 0)), (3, .int x3)] → W p l e room_1 s m #[Value.ref b] below meth c H locs 69 819 (lw_Z below #[Value.ref b] s) (F0 m 312 ls []) := by
  obtain ⟨hx, hb, hr, hml, hown, hts, hX, hbl, hlocks, hgv⟩ := C0
  have hts := fun w h => hts w (wsL_law_in w h)
  have hA : ∀ q : Nat, s.heap.size ≤ q → (fun q : Nat => s.heap.size ≤ q) q := fun _ h => h
  have hbA : ¬ (fun q : Nat => s.heap.size ≤ q) b := Nat.not_le.mpr hbl
  intro hP hD hS ls hl
  obtain ⟨r, M1, e1, e2, hRel1⟩ := hR (xs (x3 + 1).toNatClampNeg) (xs (x3 + 2).toNatClampNeg) X M hRel
  refine lv_aload_n hx hb dL_law_312 rfl (lv_at hl 1 rfl) ?_
  refine lv_aload_n hx hb dL_law_313 rfl (lv_at hl 0 rfl) ?_
  refine lv_iload_n hx hb dL_law_314 rfl (lv_at hl 3 rfl) ?_
  refine lv_iconst (v := 1) hx hb dL_law_315 (by decide) ?_
  refine lv_iadd hx hb dL_law_316 ?_
  refine va_sld hx hb hX hbl hbA hS (hin 1 (by decide) (by decide)) dL_law_317 ?_
  refine lv_aload_n hx hb dL_law_318 rfl (lv_at hl 0 rfl) ?_
  refine lv_iload_n hx hb dL_law_319 rfl (lv_at hl 3 rfl) ?_
  refine lv_iconst (v := 2) hx hb dL_law_320 (by decide) ?_
  refine lv_iadd hx hb dL_law_321 ?_
  refine va_sld hx hb hX hbl hbA hS (hin 2 (by decide) (by decide)) dL_law_322 ?_
  refine jki (jrV (As := [.int (xs (x3 + 1).toNatClampNeg), .int (xs (x3 + 2).toNatClampNeg)]) (rest := []) ⟨hx, hb, hml, hown, hts⟩ (c_X7_rat l D cyI cyZ cyT qa (xs (x3 + 1).toNatClampNeg) (xs (x3 + 2).toNatClampNeg) X r e1) (cwV 2 hts gL_law_X7_rat rfl rfl rfl (by decide +kernel) ⟨Nat.le_of_ble_eq_true rfl, Nat.le_of_ble_eq_true rfl⟩) hK (jPl hP) rfl 7 0 rfl rfl rfl hl.1 (Nat.le_of_ble_eq_true rfl) dL_law_323 ⟨Nat.le_of_ble_eq_true rfl, Nat.le_of_ble_eq_true rfl⟩) ?_
  refine lv_aload_n hx hb dL_law_326 rfl (lv_at hl 2 rfl) ?_
  refine lv_aload_n hx hb dL_law_327 rfl (lv_at hl 0 rfl) ?_
  refine lv_iload_n hx hb dL_law_328 rfl (lv_at hl 3 rfl) ?_
  refine lv_iconst (v := 1) hx hb dL_law_329 (by decide) ?_
  refine lv_iadd hx hb dL_law_330 ?_
  refine va_sld hx hb hX hbl hbA hS (hin 1 (by decide) (by decide)) dL_law_331 ?_
  refine lv_aload_n hx hb dL_law_332 rfl (lv_at hl 0 rfl) ?_
  refine lv_iload_n hx hb dL_law_333 rfl (lv_at hl 3 rfl) ?_
  refine lv_iconst (v := 2) hx hb dL_law_334 (by decide) ?_
  refine lv_iadd hx hb dL_law_335 ?_
  refine va_sld hx hb hX hbl hbA hS (hin 2 (by decide) (by decide)) dL_law_336 ?_
  refine jgiR (w1 := fun u : Mo => wM cyI cyZ qb u) (wn := wM cyI cyZ qb M1) (jmV (As := [.int (xs (x3 + 1).toNatClampNeg), .int (xs (x3 + 2).toNatClampNeg)]) (rest := [.int r]) ⟨hx, hb, hml, hown, hts⟩ (c_X8_rat l D cyI cyZ cyT qb H.size (xs (x3 + 1).toNatClampNeg) (xs (x3 + 2).toNatClampNeg) M (r, M1) e2) (cwV 2 hts gL_law_X8_rat rfl rfl rfl (by decide +kernel) ⟨Nat.le_of_ble_eq_true rfl, Nat.le_of_ble_eq_true rfl⟩) hK (jPr hP) (jDr hD) rfl 8 0 rfl rfl rfl hl.1 (Nat.le_of_ble_eq_true rfl) dL_law_337 ⟨Nat.le_of_ble_eq_true rfl, Nat.le_of_ble_eq_true rfl⟩) hP hD hS hA rfl (fun H locs hP hD hS => ?_)
  refine lv_icmp_eq (tgt := 1098) hx hb dL_law_340 (by decide) (fun _ => ?_) (fun c => absurd rfl c)
  exact hk X M1 hRel1 H locs hP hD hS ls hl
set_option maxHeartbeats 4000000 in
set_option maxRecDepth 100000 in
theorem law_as {p : Program} {l : Launch} {e : Env} {s : State} {m : MethodId} {below : List Frame} {meth : Method} {c : Code} {D : va_G} {cyI cyZ cyT : ClassId} {adK adV qa qb : Nat → Nat} {b L : Nat} {xs : Nat → Int32} {N : Nat} {Rel : BX → Mo → Prop} (C0 : lw_At p s m meth c b L xs) (hK : jK D cyI cyZ cyT s) (hZ : jStr adK adV (fun q : Nat => s.heap.size ≤ q) s s.heap) (x3 : Int32) (hin : ∀ k : Int32, k ≤ 5 → ¬ k < 0 → vp_in (x3 + k) L) (hR : ∀ (a1 a2 : Int32) (X : BX) (M : Mo), Rel X M → ∃ (r : Int32) (M1 : Mo), f_X7_as a1 a2 X = some r ∧ f_X8_as a1 a2 M = some (r, M1) ∧ Rel X M1) (hk : ∀ (X : BX) (M : Mo), Rel X M → ∀ (H : Heap) (locs : List Loc), va_P D vwCl (wX cyI cyZ cyT qa X ++ wM cyI cyZ qb M) H → va_D (fun q : Nat => s.heap.size ≤ q) (wX cyI cyZ cyT qa X ++ wM cyI cyZ qb M) → va_S (fun q : Nat => s.heap.size ≤ q) s.heap H locs → ∀ (ls : Array Slot), lv_has ls 4 [(0, .ref b), (1, .ref (qa 0)), (2, .ref (qb 0)), (3, .int x3)] → W p l e room_1 s m #[Value.ref b] below meth c H locs 69 819 (lw_Z below #[Value.ref b] s) (F0 m 1098 ls [])) (X : BX) (M : Mo) (hRel : Rel X M) (H : Heap) (locs : List Loc) : va_P D vwCl (wX cyI cyZ cyT qa X ++ wM cyI cyZ qb M) H → va_D (fun q : Nat => s.heap.size ≤ q) (wX cyI cyZ cyT qa X ++ wM cyI cyZ qb M) → va_S (fun q : Nat => s.heap.size ≤ q) s.heap H locs → ∀ (ls : Array Slot), lv_has ls 4 [(0, .ref b), (1, .ref (qa 0)), (2, .ref (qb 0)), (3, .int x3)] → W p l e room_1 s m #[Value.ref b] below meth c H locs 69 819 (lw_Z below #[Value.ref b] s) (F0 m 345 ls []) := by
  obtain ⟨hx, hb, hr, hml, hown, hts, hX, hbl, hlocks, hgv⟩ := C0
  have hts := fun w h => hts w (wsL_law_in w h)
  have hA : ∀ q : Nat, s.heap.size ≤ q → (fun q : Nat => s.heap.size ≤ q) q := fun _ h => h
  have hbA : ¬ (fun q : Nat => s.heap.size ≤ q) b := Nat.not_le.mpr hbl
  intro hP hD hS ls hl
  obtain ⟨r, M1, e1, e2, hRel1⟩ := hR (xs (x3 + 1).toNatClampNeg) (xs (x3 + 2).toNatClampNeg) X M hRel
  refine lv_aload_n hx hb dL_law_345 rfl (lv_at hl 1 rfl) ?_
  refine lv_aload_n hx hb dL_law_346 rfl (lv_at hl 0 rfl) ?_
  refine lv_iload_n hx hb dL_law_347 rfl (lv_at hl 3 rfl) ?_
  refine lv_iconst (v := 1) hx hb dL_law_348 (by decide) ?_
  refine lv_iadd hx hb dL_law_349 ?_
  refine va_sld hx hb hX hbl hbA hS (hin 1 (by decide) (by decide)) dL_law_350 ?_
  refine lv_aload_n hx hb dL_law_351 rfl (lv_at hl 0 rfl) ?_
  refine lv_iload_n hx hb dL_law_352 rfl (lv_at hl 3 rfl) ?_
  refine lv_iconst (v := 2) hx hb dL_law_353 (by decide) ?_
  refine lv_iadd hx hb dL_law_354 ?_
  refine va_sld hx hb hX hbl hbA hS (hin 2 (by decide) (by decide)) dL_law_355 ?_
  refine jki (jrV (As := [.int (xs (x3 + 1).toNatClampNeg), .int (xs (x3 + 2).toNatClampNeg)]) (rest := []) ⟨hx, hb, hml, hown, hts⟩ (c_X7_as l D cyI cyZ cyT qa (xs (x3 + 1).toNatClampNeg) (xs (x3 + 2).toNatClampNeg) X r e1) (cwV 2 hts gL_law_X7_as rfl rfl rfl (by decide +kernel) ⟨Nat.le_of_ble_eq_true rfl, Nat.le_of_ble_eq_true rfl⟩) hK (jPl hP) rfl 7 0 rfl rfl rfl hl.1 (Nat.le_of_ble_eq_true rfl) dL_law_356 ⟨Nat.le_of_ble_eq_true rfl, Nat.le_of_ble_eq_true rfl⟩) ?_
  refine lv_aload_n hx hb dL_law_359 rfl (lv_at hl 2 rfl) ?_
  refine lv_aload_n hx hb dL_law_360 rfl (lv_at hl 0 rfl) ?_
  refine lv_iload_n hx hb dL_law_361 rfl (lv_at hl 3 rfl) ?_
  refine lv_iconst (v := 1) hx hb dL_law_362 (by decide) ?_
  refine lv_iadd hx hb dL_law_363 ?_
  refine va_sld hx hb hX hbl hbA hS (hin 1 (by decide) (by decide)) dL_law_364 ?_
  refine lv_aload_n hx hb dL_law_365 rfl (lv_at hl 0 rfl) ?_
  refine lv_iload_n hx hb dL_law_366 rfl (lv_at hl 3 rfl) ?_
  refine lv_iconst (v := 2) hx hb dL_law_367 (by decide) ?_
  refine lv_iadd hx hb dL_law_368 ?_
  refine va_sld hx hb hX hbl hbA hS (hin 2 (by decide) (by decide)) dL_law_369 ?_
  refine jgiR (w1 := fun u : Mo => wM cyI cyZ qb u) (wn := wM cyI cyZ qb M1) (jmV (As := [.int (xs (x3 + 1).toNatClampNeg), .int (xs (x3 + 2).toNatClampNeg)]) (rest := [.int r]) ⟨hx, hb, hml, hown, hts⟩ (c_X8_as l D cyI cyZ cyT qb H.size (xs (x3 + 1).toNatClampNeg) (xs (x3 + 2).toNatClampNeg) M (r, M1) e2) (cwV 2 hts gL_law_X8_as rfl rfl rfl (by decide +kernel) ⟨Nat.le_of_ble_eq_true rfl, Nat.le_of_ble_eq_true rfl⟩) hK (jPr hP) (jDr hD) rfl 8 0 rfl rfl rfl hl.1 (Nat.le_of_ble_eq_true rfl) dL_law_370 ⟨Nat.le_of_ble_eq_true rfl, Nat.le_of_ble_eq_true rfl⟩) hP hD hS hA rfl (fun H locs hP hD hS => ?_)
  refine lv_icmp_eq (tgt := 1098) hx hb dL_law_373 (by decide) (fun _ => ?_) (fun c => absurd rfl c)
  exact hk X M1 hRel1 H locs hP hD hS ls hl
set_option maxHeartbeats 4000000 in
set_option maxRecDepth 100000 in
theorem law_danger {p : Program} {l : Launch} {e : Env} {s : State} {m : MethodId} {below : List Frame} {meth : Method} {c : Code} {D : va_G} {cyI cyZ cyT : ClassId} {adK adV qa qb : Nat → Nat} {b L : Nat} {xs : Nat → Int32} {N : Nat} {Rel : BX → Mo → Prop} (C0 : lw_At p s m meth c b L xs) (hK : jK D cyI cyZ cyT s) (hZ : jStr adK adV (fun q : Nat => s.heap.size ≤ q) s s.heap) (x3 : Int32) (hin : ∀ k : Int32, k ≤ 5 → ¬ k < 0 → vp_in (x3 + k) L) (hR : ∀ (a1 a2 : Int32) (X : BX) (M : Mo), Rel X M → ∃ (r : Int32) (M1 : Mo), f_X7_danger a1 a2 X = some r ∧ f_X8_danger a1 a2 M = some (r, M1) ∧ Rel X M1) (hk : ∀ (X : BX) (M : Mo), Rel X M → ∀ (H : Heap) (locs : List Loc), va_P D vwCl (wX cyI cyZ cyT qa X ++ wM cyI cyZ qb M) H → va_D (fun q : Nat => s.heap.size ≤ q) (wX cyI cyZ cyT qa X ++ wM cyI cyZ qb M) → va_S (fun q : Nat => s.heap.size ≤ q) s.heap H locs → ∀ (ls : Array Slot), lv_has ls 4 [(0, .ref b), (1, .ref (qa 0)), (2, .ref (qb 0)), (3, .int x3)] → W p l e room_1 s m #[Value.ref b] below meth c H locs 69 819 (lw_Z below #[Value.ref b] s) (F0 m 1098 ls [])) (X : BX) (M : Mo) (hRel : Rel X M) (H : Heap) (locs : List Loc) : va_P D vwCl (wX cyI cyZ cyT qa X ++ wM cyI cyZ qb M) H → va_D (fun q : Nat => s.heap.size ≤ q) (wX cyI cyZ cyT qa X ++ wM cyI cyZ qb M) → va_S (fun q : Nat => s.heap.size ≤ q) s.heap H locs → ∀ (ls : Array Slot), lv_has ls 4 [(0, .ref b), (1, .ref (qa 0)), (2, .ref (qb 0)), (3, .int x3)] → W p l e room_1 s m #[Value.ref b] below meth c H locs 69 819 (lw_Z below #[Value.ref b] s) (F0 m 378 ls []) := by
  obtain ⟨hx, hb, hr, hml, hown, hts, hX, hbl, hlocks, hgv⟩ := C0
  have hts := fun w h => hts w (wsL_law_in w h)
  have hA : ∀ q : Nat, s.heap.size ≤ q → (fun q : Nat => s.heap.size ≤ q) q := fun _ h => h
  have hbA : ¬ (fun q : Nat => s.heap.size ≤ q) b := Nat.not_le.mpr hbl
  intro hP hD hS ls hl
  obtain ⟨r, M1, e1, e2, hRel1⟩ := hR (xs (x3 + 1).toNatClampNeg) (xs (x3 + 2).toNatClampNeg) X M hRel
  refine lv_aload_n hx hb dL_law_378 rfl (lv_at hl 1 rfl) ?_
  refine lv_aload_n hx hb dL_law_379 rfl (lv_at hl 0 rfl) ?_
  refine lv_iload_n hx hb dL_law_380 rfl (lv_at hl 3 rfl) ?_
  refine lv_iconst (v := 1) hx hb dL_law_381 (by decide) ?_
  refine lv_iadd hx hb dL_law_382 ?_
  refine va_sld hx hb hX hbl hbA hS (hin 1 (by decide) (by decide)) dL_law_383 ?_
  refine lv_aload_n hx hb dL_law_384 rfl (lv_at hl 0 rfl) ?_
  refine lv_iload_n hx hb dL_law_385 rfl (lv_at hl 3 rfl) ?_
  refine lv_iconst (v := 2) hx hb dL_law_386 (by decide) ?_
  refine lv_iadd hx hb dL_law_387 ?_
  refine va_sld hx hb hX hbl hbA hS (hin 2 (by decide) (by decide)) dL_law_388 ?_
  refine jki (jrV (As := [.int (xs (x3 + 1).toNatClampNeg), .int (xs (x3 + 2).toNatClampNeg)]) (rest := []) ⟨hx, hb, hml, hown, hts⟩ (c_X7_danger l D cyI cyZ cyT qa (xs (x3 + 1).toNatClampNeg) (xs (x3 + 2).toNatClampNeg) X r e1) (cwV 2 hts gL_law_X7_danger rfl rfl rfl (by decide +kernel) ⟨Nat.le_of_ble_eq_true rfl, Nat.le_of_ble_eq_true rfl⟩) hK (jPl hP) rfl 7 0 rfl rfl rfl hl.1 (Nat.le_of_ble_eq_true rfl) dL_law_389 ⟨Nat.le_of_ble_eq_true rfl, Nat.le_of_ble_eq_true rfl⟩) ?_
  refine lv_aload_n hx hb dL_law_392 rfl (lv_at hl 2 rfl) ?_
  refine lv_aload_n hx hb dL_law_393 rfl (lv_at hl 0 rfl) ?_
  refine lv_iload_n hx hb dL_law_394 rfl (lv_at hl 3 rfl) ?_
  refine lv_iconst (v := 1) hx hb dL_law_395 (by decide) ?_
  refine lv_iadd hx hb dL_law_396 ?_
  refine va_sld hx hb hX hbl hbA hS (hin 1 (by decide) (by decide)) dL_law_397 ?_
  refine lv_aload_n hx hb dL_law_398 rfl (lv_at hl 0 rfl) ?_
  refine lv_iload_n hx hb dL_law_399 rfl (lv_at hl 3 rfl) ?_
  refine lv_iconst (v := 2) hx hb dL_law_400 (by decide) ?_
  refine lv_iadd hx hb dL_law_401 ?_
  refine va_sld hx hb hX hbl hbA hS (hin 2 (by decide) (by decide)) dL_law_402 ?_
  refine jgiR (w1 := fun u : Mo => wM cyI cyZ qb u) (wn := wM cyI cyZ qb M1) (jmV (As := [.int (xs (x3 + 1).toNatClampNeg), .int (xs (x3 + 2).toNatClampNeg)]) (rest := [.int r]) ⟨hx, hb, hml, hown, hts⟩ (c_X8_danger l D cyI cyZ cyT qb H.size (xs (x3 + 1).toNatClampNeg) (xs (x3 + 2).toNatClampNeg) M (r, M1) e2) (cwV 2 hts gL_law_X8_danger rfl rfl rfl (by decide +kernel) ⟨Nat.le_of_ble_eq_true rfl, Nat.le_of_ble_eq_true rfl⟩) hK (jPr hP) (jDr hD) rfl 8 0 rfl rfl rfl hl.1 (Nat.le_of_ble_eq_true rfl) dL_law_403 ⟨Nat.le_of_ble_eq_true rfl, Nat.le_of_ble_eq_true rfl⟩) hP hD hS hA rfl (fun H locs hP hD hS => ?_)
  refine lv_icmp_eq (tgt := 1098) hx hb dL_law_406 (by decide) (fun _ => ?_) (fun c => absurd rfl c)
  exact hk X M1 hRel1 H locs hP hD hS ls hl

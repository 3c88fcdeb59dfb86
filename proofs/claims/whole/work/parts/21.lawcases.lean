def R_law : String := "BellTheCatLaw"
def lw_P (b : Addr) (xs : List Int32) (args : Array Value) (s : State) : Prop := args = #[.ref b] ∧ s.IntsAt b xs ∧ xs.length ≤ 3072 ∧ (Jvm.Cond.and given_1 narrow_1).before args s = true
def lw_Q (_ : Array Value) (s : State) (o : Outcome) (t : State) : Prop := o = .returned (some (.int 1)) ∧ Framed s o t [] 600000 7302250
def lw_Z (below : List Frame) (a : Array Value) (s : State) : State → Prop := fun t => ∃ o, t.status = .running ∧ Ended t below o ∧ lw_Q a s o t
/-- the law's own end, with 1 on the stack, nothing written that was there before, its room as the claim has it -/
theorem lw_ret {p : Program} {l : Launch} {e : Env} {s : State} {m : MethodId} {below : List Frame} {meth : Method} {c : Code} {b : Nat} (hx : p.tables.exec = Jvm.exec) (hb : c.code = code) (hr : meth.sig.returnType = ret) (hlocks : meth.locks = false) {pc : Nat} {H : Heap} {ls : Array Slot} (hdg : decode code pc = .ok (.ireturn, 1)) : W p l e room_1 s m #[Value.ref b] below meth c H [] 600000 7302250 (lw_Z below #[Value.ref b] s) (F0 m pc ls [.int 1]) := by
  intro T hT X
  obtain ⟨fs, hret, hrun, hended, hW, hframe⟩ := X.leave (v := some (.int 1)) (hlocks := hlocks) (fun h => by rw [hr] at h; cases h)
  have hmeth' : T.vm.method? m = some meth := X.method'
  refine ⟨T.setFrames fs, ?_, .returned (some (.int 1)), hrun, hended, rfl, ⟨_, rfl⟩, hW, hframe⟩
  jvm_step X.here [X.here.top, hx, hb, hdg, hmeth', hr, ret, narrow_b1]
  (try refine ⟨rfl, ?_⟩); (try refine ⟨rfl, ?_⟩)
  first | (intro acts; rw [hret _ acts rfl rfl rfl]) | rw [hret _ _ rfl rfl rfl]
  exact Steps.refl _
/-- what holds at the law's entry: the machine, the code, the tables' words (any of lw_tbl by 'hts w (by decide +kernel)'), the script of L ints xs at the cell b, what the Statement gives of the start (any of its parts by flat_of_before) -/
def lw_At (p : Program) (s : State) (m : MethodId) (meth : Method) (c : Code) (b L : Nat) (xs : Nat → Int32) : Prop :=
  p.tables.exec = Jvm.exec ∧ c.code = code ∧ meth.sig.returnType = ret ∧ c.maxLocals = 4 ∧ s.vm.findClass R_law = some m.cls ∧ (∀ w ∈ lw_tbl, w.before #[Value.ref b] s = true) ∧ va_X b L xs s s.heap ∧ b < s.heap.size ∧ meth.locks = false ∧ (Jvm.Cond.and given_1 narrow_1).before #[Value.ref b] s = true
theorem jlaw_gt {L j : Nat} {x3 : Int32} (hL : L ≤ 3072) (hj : j ≤ 3080) (h3 : x3 = nI j) (h : L < j) : Int32.ofNat L - 6 < x3 := by
  rw [Int32.lt_iff_toInt_lt, h3, nI_toInt (by omega), show Int32.ofNat L - 6 = nI L - nI 6 from rfl, pk_sub_toInt (by omega) (by omega)]
  omega
theorem jlaw_le {L j : Nat} {x3 : Int32} (hL : L ≤ 3072) (hj : j ≤ 3080) (h3 : x3 = nI j) (h : ¬ Int32.ofNat L - 6 < x3) : j + 6 ≤ L := by
  rw [Int32.lt_iff_toInt_lt, h3, nI_toInt (by omega), show Int32.ofNat L - 6 = nI L - nI 6 from rfl, pk_sub_toInt (by omega) (by omega)] at h
  omega
theorem jlaw_in {L j : Nat} {x3 : Int32} (hL : L ≤ 3072) (h3 : x3 = nI j) (hj : j + 6 ≤ L) : ∀ k : Int32, k ≤ 5 → ¬ k < 0 → vp_in (x3 + k) L := by
  intro k h5 h0
  obtain ⟨i, hi, rfl⟩ := nI_of h0
  have h6 : i ≤ 5 := (nI_leI hi (by omega)).mp h5
  rw [h3, nI_add]
  exact vp_in_nI (by omega) (by omega)
set_option maxHeartbeats 4000000 in
set_option maxRecDepth 100000 in
theorem law_write {p : Program} {l : Launch} {e : Env} {s : State} {m : MethodId} {below : List Frame} {meth : Method} {c : Code} {D : va_G} {cyI cyZ cyT : ClassId} {adK adV qa qb : Nat → Nat} {b L : Nat} {xs : Nat → Int32} {N : Nat} {Rel : BX → Mo → Prop} (C0 : lw_At p s m meth c b L xs) (hK : jK D cyI cyZ cyT s) (hZ : jStr adK adV (fun q : Nat => s.heap.size ≤ q) s s.heap) (x3 : Int32) (hin : ∀ k : Int32, k ≤ 5 → ¬ k < 0 → vp_in (x3 + k) L) (hR : ∀ (a1 : Int32) (X : BX) (M : Mo), Rel X M → ∃ (r : Int32) (X1 : BX) (M1 : Mo), f_X7_write a1 X = some (r, X1) ∧ f_X8_write a1 M = some (r, M1) ∧ Rel X1 M1) (hk : ∀ (X : BX) (M : Mo), Rel X M → ∀ (H : Heap) (locs : List Loc), va_P D vwCl (wX cyI cyZ cyT qa X ++ wM cyI cyZ qb M) H → va_D (fun q : Nat => s.heap.size ≤ q) (wX cyI cyZ cyT qa X ++ wM cyI cyZ qb M) → va_S (fun q : Nat => s.heap.size ≤ q) s.heap H locs → ∀ (ls : Array Slot), lv_has ls 4 [(0, .ref b), (1, .ref (qa 0)), (2, .ref (qb 0)), (3, .int x3)] → W p l e room_1 s m #[Value.ref b] below meth c H locs 69 821 (lw_Z below #[Value.ref b] s) (F0 m 1098 ls [])) (X : BX) (M : Mo) (hRel : Rel X M) (H : Heap) (locs : List Loc) : va_P D vwCl (wX cyI cyZ cyT qa X ++ wM cyI cyZ qb M) H → va_D (fun q : Nat => s.heap.size ≤ q) (wX cyI cyZ cyT qa X ++ wM cyI cyZ qb M) → va_S (fun q : Nat => s.heap.size ≤ q) s.heap H locs → ∀ (ls : Array Slot), lv_has ls 4 [(0, .ref b), (1, .ref (qa 0)), (2, .ref (qb 0)), (3, .int x3)] → W p l e room_1 s m #[Value.ref b] below meth c H locs 69 821 (lw_Z below #[Value.ref b] s) (F0 m 184 ls []) := by
  obtain ⟨hx, hb, hr, hml, hown, hts, hX, hbl, hlocks, hgv⟩ := C0
  have hts := fun w h => hts w (wsL_law_in w h)
  have hA : ∀ q : Nat, s.heap.size ≤ q → (fun q : Nat => s.heap.size ≤ q) q := fun _ h => h
  have hbA : ¬ (fun q : Nat => s.heap.size ≤ q) b := Nat.not_le.mpr hbl
  intro hP hD hS ls hl
  obtain ⟨r, X1, M1, e1, e2, hRel1⟩ := hR (xs (x3 + 1).toNatClampNeg) X M hRel
  refine lv_aload_n hx hb dL_law_184 rfl (lv_at hl 1 rfl) ?_
  refine lv_aload_n hx hb dL_law_185 rfl (lv_at hl 0 rfl) ?_
  refine lv_iload_n hx hb dL_law_186 rfl (lv_at hl 3 rfl) ?_
  refine lv_iconst (v := 1) hx hb dL_law_187 (by decide) ?_
  refine lv_iadd hx hb dL_law_188 ?_
  refine va_sld hx hb hX hbl hbA hS (hin 1 (by decide) (by decide)) dL_law_189 ?_
  refine jgi (w1 := fun u : BX => wX cyI cyZ cyT qa u) (wn := wX cyI cyZ cyT qa X1 ++ wM cyI cyZ qb M) (jmV (As := [.int (xs (x3 + 1).toNatClampNeg)]) (rest := []) ⟨hx, hb, hml, hown, hts⟩ (c_X7_write l D cyI cyZ cyT qa H.size (xs (x3 + 1).toNatClampNeg) X (r, X1) e1) (cwV 1 hts gL_law_X7_write rfl rfl rfl (by decide +kernel) ⟨Nat.le_of_ble_eq_true rfl, Nat.le_of_ble_eq_true rfl⟩) hK (hP.sub (ws' := wX cyI cyZ cyT qa X) [0, 1, 2, 3, 4, 5, 6, 7, 8, 9, 10, 11, 12, 13, 14, 15, 16, 17, 18, 19, 20, 21, 22, 23, 24, 25, 26, 27, 28, 29, 30, 31, 32, 33, 34, 35, 36, 37, 38, 39, 40, 41, 42, 43, 44, 45, 46, 47, 48, 49, 50, 51, 52, 53, 54] rfl) (hD.sub (ws' := wX cyI cyZ cyT qa X) [0, 1, 2, 3, 4, 5, 6, 7, 8, 9, 10, 11, 12, 13, 14, 15, 16, 17, 18, 19, 20, 21, 22, 23, 24, 25, 26, 27, 28, 29, 30, 31, 32, 33, 34, 35, 36, 37, 38, 39, 40, 41, 42, 43, 44, 45, 46, 47, 48, 49, 50, 51, 52, 53, 54] (by decide) rfl) rfl 7 0 rfl rfl rfl hl.1 (Nat.le_of_ble_eq_true rfl) dL_law_190 ⟨Nat.le_of_ble_eq_true rfl, Nat.le_of_ble_eq_true rfl⟩) hP hD hS hA [0, 1, 2, 3, 4, 5, 6, 7, 8, 9, 10, 11, 12, 13, 14, 15, 16, 17, 18, 19, 20, 21, 22, 23, 24, 25, 26, 27, 28, 29, 30, 31, 32, 33, 34, 35, 36, 37, 38, 39, 40, 41, 42, 43, 44, 45, 46, 47, 48, 49, 50, 51, 52, 53, 54] [55, 56, 57, 58, 59, 60, 61, 62, 63, 64, 65, 66, 67, 68] [14, 15, 16, 17, 18, 19, 20, 21, 22, 23, 24, 25, 26, 27, 28, 29, 30, 31, 32, 33, 34, 35, 36, 37, 38, 39, 40, 41, 42, 43, 44, 45, 46, 47, 48, 49, 50, 51, 52, 53, 54, 55, 56, 57, 58, 59, 60, 61, 62, 63, 64, 65, 66, 67, 68, 0, 1, 2, 3, 4, 5, 6, 7, 8, 9, 10, 11, 12, 13] rfl rfl (by decide) (by decide) rfl (by decide) (fun H locs hP hD hS => ?_)
  refine lv_aload_n hx hb dL_law_193 rfl (lv_at hl 2 rfl) ?_
  refine lv_aload_n hx hb dL_law_194 rfl (lv_at hl 0 rfl) ?_
  refine lv_iload_n hx hb dL_law_195 rfl (lv_at hl 3 rfl) ?_
  refine lv_iconst (v := 1) hx hb dL_law_196 (by decide) ?_
  refine lv_iadd hx hb dL_law_197 ?_
  refine va_sld hx hb hX hbl hbA hS (hin 1 (by decide) (by decide)) dL_law_198 ?_
  refine jgi (w1 := fun u : Mo => wM cyI cyZ qb u) (wn := wX cyI cyZ cyT qa X1 ++ wM cyI cyZ qb M1) (jmV (As := [.int (xs (x3 + 1).toNatClampNeg)]) (rest := [.int (r, X1).1]) ⟨hx, hb, hml, hown, hts⟩ (c_X8_write l D cyI cyZ cyT qb H.size (xs (x3 + 1).toNatClampNeg) M (r, M1) e2) (cwV 1 hts gL_law_X8_write rfl rfl rfl (by decide +kernel) ⟨Nat.le_of_ble_eq_true rfl, Nat.le_of_ble_eq_true rfl⟩) hK (hP.sub (ws' := wM cyI cyZ qb M) [55, 56, 57, 58, 59, 60, 61, 62, 63, 64, 65, 66, 67, 68] rfl) (hD.sub (ws' := wM cyI cyZ qb M) [55, 56, 57, 58, 59, 60, 61, 62, 63, 64, 65, 66, 67, 68] (by decide) rfl) rfl 8 0 rfl rfl rfl hl.1 (Nat.le_of_ble_eq_true rfl) dL_law_199 ⟨Nat.le_of_ble_eq_true rfl, Nat.le_of_ble_eq_true rfl⟩) hP hD hS hA [55, 56, 57, 58, 59, 60, 61, 62, 63, 64, 65, 66, 67, 68] [0, 1, 2, 3, 4, 5, 6, 7, 8, 9, 10, 11, 12, 13, 14, 15, 16, 17, 18, 19, 20, 21, 22, 23, 24, 25, 26, 27, 28, 29, 30, 31, 32, 33, 34, 35, 36, 37, 38, 39, 40, 41, 42, 43, 44, 45, 46, 47, 48, 49, 50, 51, 52, 53, 54] [0, 1, 2, 3, 4, 5, 6, 7, 8, 9, 10, 11, 12, 13, 14, 15, 16, 17, 18, 19, 20, 21, 22, 23, 24, 25, 26, 27, 28, 29, 30, 31, 32, 33, 34, 35, 36, 37, 38, 39, 40, 41, 42, 43, 44, 45, 46, 47, 48, 49, 50, 51, 52, 53, 54, 55, 56, 57, 58, 59, 60, 61, 62, 63, 64, 65, 66, 67, 68] rfl rfl (by decide) (by decide) rfl (by decide) (fun H locs hP hD hS => ?_)
  refine lv_icmp_eq (tgt := 1098) hx hb dL_law_202 (by decide) (fun _ => ?_) (fun c => absurd rfl c)
  exact hk X1 M1 hRel1 H locs hP hD hS ls hl
set_option maxHeartbeats 4000000 in
set_option maxRecDepth 100000 in
theorem law_erase {p : Program} {l : Launch} {e : Env} {s : State} {m : MethodId} {below : List Frame} {meth : Method} {c : Code} {D : va_G} {cyI cyZ cyT : ClassId} {adK adV qa qb : Nat → Nat} {b L : Nat} {xs : Nat → Int32} {N : Nat} {Rel : BX → Mo → Prop} (C0 : lw_At p s m meth c b L xs) (hK : jK D cyI cyZ cyT s) (hZ : jStr adK adV (fun q : Nat => s.heap.size ≤ q) s s.heap) (x3 : Int32) (hin : ∀ k : Int32, k ≤ 5 → ¬ k < 0 → vp_in (x3 + k) L) (hR : ∀ (X : BX) (M : Mo), Rel X M → ∃ (r : Int32) (X1 : BX) (M1 : Mo), f_X7_erase X = some (r, X1) ∧ f_X8_erase M = some (r, M1) ∧ Rel X1 M1) (hk : ∀ (X : BX) (M : Mo), Rel X M → ∀ (H : Heap) (locs : List Loc), va_P D vwCl (wX cyI cyZ cyT qa X ++ wM cyI cyZ qb M) H → va_D (fun q : Nat => s.heap.size ≤ q) (wX cyI cyZ cyT qa X ++ wM cyI cyZ qb M) → va_S (fun q : Nat => s.heap.size ≤ q) s.heap H locs → ∀ (ls : Array Slot), lv_has ls 4 [(0, .ref b), (1, .ref (qa 0)), (2, .ref (qb 0)), (3, .int x3)] → W p l e room_1 s m #[Value.ref b] below meth c H locs 69 821 (lw_Z below #[Value.ref b] s) (F0 m 1098 ls [])) (X : BX) (M : Mo) (hRel : Rel X M) (H : Heap) (locs : List Loc) : va_P D vwCl (wX cyI cyZ cyT qa X ++ wM cyI cyZ qb M) H → va_D (fun q : Nat => s.heap.size ≤ q) (wX cyI cyZ cyT qa X ++ wM cyI cyZ qb M) → va_S (fun q : Nat => s.heap.size ≤ q) s.heap H locs → ∀ (ls : Array Slot), lv_has ls 4 [(0, .ref b), (1, .ref (qa 0)), (2, .ref (qb 0)), (3, .int x3)] → W p l e room_1 s m #[Value.ref b] below meth c H locs 69 821 (lw_Z below #[Value.ref b] s) (F0 m 207 ls []) := by
  obtain ⟨hx, hb, hr, hml, hown, hts, hX, hbl, hlocks, hgv⟩ := C0
  have hts := fun w h => hts w (wsL_law_in w h)
  have hA : ∀ q : Nat, s.heap.size ≤ q → (fun q : Nat => s.heap.size ≤ q) q := fun _ h => h
  have hbA : ¬ (fun q : Nat => s.heap.size ≤ q) b := Nat.not_le.mpr hbl
  intro hP hD hS ls hl
  obtain ⟨r, X1, M1, e1, e2, hRel1⟩ := hR  X M hRel
  refine lv_aload_n hx hb dL_law_207 rfl (lv_at hl 1 rfl) ?_
  refine jgi (w1 := fun u : BX => wX cyI cyZ cyT qa u) (wn := wX cyI cyZ cyT qa X1 ++ wM cyI cyZ qb M) (jmV (As := []) (rest := []) ⟨hx, hb, hml, hown, hts⟩ (c_X7_erase l D cyI cyZ cyT qa H.size X (r, X1) e1) (cwV 0 hts gL_law_X7_erase rfl rfl rfl (by decide +kernel) ⟨Nat.le_of_ble_eq_true rfl, Nat.le_of_ble_eq_true rfl⟩) hK (hP.sub (ws' := wX cyI cyZ cyT qa X) [0, 1, 2, 3, 4, 5, 6, 7, 8, 9, 10, 11, 12, 13, 14, 15, 16, 17, 18, 19, 20, 21, 22, 23, 24, 25, 26, 27, 28, 29, 30, 31, 32, 33, 34, 35, 36, 37, 38, 39, 40, 41, 42, 43, 44, 45, 46, 47, 48, 49, 50, 51, 52, 53, 54] rfl) (hD.sub (ws' := wX cyI cyZ cyT qa X) [0, 1, 2, 3, 4, 5, 6, 7, 8, 9, 10, 11, 12, 13, 14, 15, 16, 17, 18, 19, 20, 21, 22, 23, 24, 25, 26, 27, 28, 29, 30, 31, 32, 33, 34, 35, 36, 37, 38, 39, 40, 41, 42, 43, 44, 45, 46, 47, 48, 49, 50, 51, 52, 53, 54] (by decide) rfl) rfl 7 0 rfl rfl rfl hl.1 (Nat.le_of_ble_eq_true rfl) dL_law_208 ⟨Nat.le_of_ble_eq_true rfl, Nat.le_of_ble_eq_true rfl⟩) hP hD hS hA [0, 1, 2, 3, 4, 5, 6, 7, 8, 9, 10, 11, 12, 13, 14, 15, 16, 17, 18, 19, 20, 21, 22, 23, 24, 25, 26, 27, 28, 29, 30, 31, 32, 33, 34, 35, 36, 37, 38, 39, 40, 41, 42, 43, 44, 45, 46, 47, 48, 49, 50, 51, 52, 53, 54] [55, 56, 57, 58, 59, 60, 61, 62, 63, 64, 65, 66, 67, 68] [14, 15, 16, 17, 18, 19, 20, 21, 22, 23, 24, 25, 26, 27, 28, 29, 30, 31, 32, 33, 34, 35, 36, 37, 38, 39, 40, 41, 42, 43, 44, 45, 46, 47, 48, 49, 50, 51, 52, 53, 54, 55, 56, 57, 58, 59, 60, 61, 62, 63, 64, 65, 66, 67, 68, 0, 1, 2, 3, 4, 5, 6, 7, 8, 9, 10, 11, 12, 13] rfl rfl (by decide) (by decide) rfl (by decide) (fun H locs hP hD hS => ?_)
  refine lv_aload_n hx hb dL_law_211 rfl (lv_at hl 2 rfl) ?_
  refine jgi (w1 := fun u : Mo => wM cyI cyZ qb u) (wn := wX cyI cyZ cyT qa X1 ++ wM cyI cyZ qb M1) (jmV (As := []) (rest := [.int (r, X1).1]) ⟨hx, hb, hml, hown, hts⟩ (c_X8_erase l D cyI cyZ cyT qb H.size M (r, M1) e2) (cwV 0 hts gL_law_X8_erase rfl rfl rfl (by decide +kernel) ⟨Nat.le_of_ble_eq_true rfl, Nat.le_of_ble_eq_true rfl⟩) hK (hP.sub (ws' := wM cyI cyZ qb M) [55, 56, 57, 58, 59, 60, 61, 62, 63, 64, 65, 66, 67, 68] rfl) (hD.sub (ws' := wM cyI cyZ qb M) [55, 56, 57, 58, 59, 60, 61, 62, 63, 64, 65, 66, 67, 68] (by decide) rfl) rfl 8 0 rfl rfl rfl hl.1 (Nat.le_of_ble_eq_true rfl) dL_law_212 ⟨Nat.le_of_ble_eq_true rfl, Nat.le_of_ble_eq_true rfl⟩) hP hD hS hA [55, 56, 57, 58, 59, 60, 61, 62, 63, 64, 65, 66, 67, 68] [0, 1, 2, 3, 4, 5, 6, 7, 8, 9, 10, 11, 12, 13, 14, 15, 16, 17, 18, 19, 20, 21, 22, 23, 24, 25, 26, 27, 28, 29, 30, 31, 32, 33, 34, 35, 36, 37, 38, 39, 40, 41, 42, 43, 44, 45, 46, 47, 48, 49, 50, 51, 52, 53, 54] [0, 1, 2, 3, 4, 5, 6, 7, 8, 9, 10, 11, 12, 13, 14, 15, 16, 17, 18, 19, 20, 21, 22, 23, 24, 25, 26, 27, 28, 29, 30, 31, 32, 33, 34, 35, 36, 37, 38, 39, 40, 41, 42, 43, 44, 45, 46, 47, 48, 49, 50, 51, 52, 53, 54, 55, 56, 57, 58, 59, 60, 61, 62, 63, 64, 65, 66, 67, 68] rfl rfl (by decide) (by decide) rfl (by decide) (fun H locs hP hD hS => ?_)
  refine lv_icmp_eq (tgt := 1098) hx hb dL_law_215 (by decide) (fun _ => ?_) (fun c => absurd rfl c)
  exact hk X1 M1 hRel1 H locs hP hD hS ls hl
set_option maxHeartbeats 4000000 in
set_option maxRecDepth 100000 in
theorem law_fault {p : Program} {l : Launch} {e : Env} {s : State} {m : MethodId} {below : List Frame} {meth : Method} {c : Code} {D : va_G} {cyI cyZ cyT : ClassId} {adK adV qa qb : Nat → Nat} {b L : Nat} {xs : Nat → Int32} {N : Nat} {Rel : BX → Mo → Prop} (C0 : lw_At p s m meth c b L xs) (hK : jK D cyI cyZ cyT s) (hZ : jStr adK adV (fun q : Nat => s.heap.size ≤ q) s s.heap) (x3 : Int32) (hin : ∀ k : Int32, k ≤ 5 → ¬ k < 0 → vp_in (x3 + k) L) (hR : ∀ (X : BX) (M : Mo), Rel X M → ∃ (r : Int32) (X1 : BX) (M1 : Mo), f_X7_fault N X = some (r, X1) ∧ f_X8_fault N M = some (r, M1) ∧ Rel X1 M1) (hk : ∀ (X : BX) (M : Mo), Rel X M → ∀ (H : Heap) (locs : List Loc), va_P D vwCl (wX cyI cyZ cyT qa X ++ wM cyI cyZ qb M) H → va_D (fun q : Nat => s.heap.size ≤ q) (wX cyI cyZ cyT qa X ++ wM cyI cyZ qb M) → va_S (fun q : Nat => s.heap.size ≤ q) s.heap H locs → ∀ (ls : Array Slot), lv_has ls 4 [(0, .ref b), (1, .ref (qa 0)), (2, .ref (qb 0)), (3, .int x3)] → W p l e room_1 s m #[Value.ref b] below meth c H locs 69 821 (lw_Z below #[Value.ref b] s) (F0 m 1098 ls [])) (X : BX) (M : Mo) (hRel : Rel X M) (H : Heap) (locs : List Loc) : va_P D vwCl (wX cyI cyZ cyT qa X ++ wM cyI cyZ qb M) H → va_D (fun q : Nat => s.heap.size ≤ q) (wX cyI cyZ cyT qa X ++ wM cyI cyZ qb M) → va_S (fun q : Nat => s.heap.size ≤ q) s.heap H locs → ∀ (ls : Array Slot), lv_has ls 4 [(0, .ref b), (1, .ref (qa 0)), (2, .ref (qb 0)), (3, .int x3)] → W p l e room_1 s m #[Value.ref b] below meth c H locs 69 821 (lw_Z below #[Value.ref b] s) (F0 m 220 ls []) := by
  obtain ⟨hx, hb, hr, hml, hown, hts, hX, hbl, hlocks, hgv⟩ := C0
  have hts := fun w h => hts w (wsL_law_in w h)
  have hA : ∀ q : Nat, s.heap.size ≤ q → (fun q : Nat => s.heap.size ≤ q) q := fun _ h => h
  have hbA : ¬ (fun q : Nat => s.heap.size ≤ q) b := Nat.not_le.mpr hbl
  intro hP hD hS ls hl
  obtain ⟨r, X1, M1, e1, e2, hRel1⟩ := hR  X M hRel
  refine lv_aload_n hx hb dL_law_220 rfl (lv_at hl 1 rfl) ?_
  refine jgi (w1 := fun u : BX => wX cyI cyZ cyT qa u) (wn := wX cyI cyZ cyT qa X1 ++ wM cyI cyZ qb M) (jmVs (As := []) (rest := []) ⟨hx, hb, hml, hown, hts⟩ (c_X7_fault l D cyI cyZ cyT adK adV qa H.size N X (r, X1) e1) (cwV 0 hts gL_law_X7_fault rfl rfl rfl (by decide +kernel) ⟨Nat.le_of_ble_eq_true rfl, Nat.le_of_ble_eq_true rfl⟩) hK (hP.sub (ws' := wX cyI cyZ cyT qa X) [0, 1, 2, 3, 4, 5, 6, 7, 8, 9, 10, 11, 12, 13, 14, 15, 16, 17, 18, 19, 20, 21, 22, 23, 24, 25, 26, 27, 28, 29, 30, 31, 32, 33, 34, 35, 36, 37, 38, 39, 40, 41, 42, 43, 44, 45, 46, 47, 48, 49, 50, 51, 52, 53, 54] rfl) (hD.sub (ws' := wX cyI cyZ cyT qa X) [0, 1, 2, 3, 4, 5, 6, 7, 8, 9, 10, 11, 12, 13, 14, 15, 16, 17, 18, 19, 20, 21, 22, 23, 24, 25, 26, 27, 28, 29, 30, 31, 32, 33, 34, 35, 36, 37, 38, 39, 40, 41, 42, 43, 44, 45, 46, 47, 48, 49, 50, 51, 52, 53, 54] (by decide) rfl) ((hZ.kept hS.2.1).narrow (va_free (wc := wX cyI cyZ cyT qa X) hD hS hA [0, 1, 2, 3, 4, 5, 6, 7, 8, 9, 10, 11, 12, 13, 14, 15, 16, 17, 18, 19, 20, 21, 22, 23, 24, 25, 26, 27, 28, 29, 30, 31, 32, 33, 34, 35, 36, 37, 38, 39, 40, 41, 42, 43, 44, 45, 46, 47, 48, 49, 50, 51, 52, 53, 54] rfl)) rfl 7 0 rfl rfl rfl hl.1 (Nat.le_of_ble_eq_true rfl) dL_law_221 ⟨Nat.le_of_ble_eq_true rfl, Nat.le_of_ble_eq_true rfl⟩) hP hD hS hA [0, 1, 2, 3, 4, 5, 6, 7, 8, 9, 10, 11, 12, 13, 14, 15, 16, 17, 18, 19, 20, 21, 22, 23, 24, 25, 26, 27, 28, 29, 30, 31, 32, 33, 34, 35, 36, 37, 38, 39, 40, 41, 42, 43, 44, 45, 46, 47, 48, 49, 50, 51, 52, 53, 54] [55, 56, 57, 58, 59, 60, 61, 62, 63, 64, 65, 66, 67, 68] [14, 15, 16, 17, 18, 19, 20, 21, 22, 23, 24, 25, 26, 27, 28, 29, 30, 31, 32, 33, 34, 35, 36, 37, 38, 39, 40, 41, 42, 43, 44, 45, 46, 47, 48, 49, 50, 51, 52, 53, 54, 55, 56, 57, 58, 59, 60, 61, 62, 63, 64, 65, 66, 67, 68, 0, 1, 2, 3, 4, 5, 6, 7, 8, 9, 10, 11, 12, 13] rfl rfl (by decide) (by decide) rfl (by decide) (fun H locs hP hD hS => ?_)
  refine lv_aload_n hx hb dL_law_224 rfl (lv_at hl 2 rfl) ?_
  refine jgi (w1 := fun u : Mo => wM cyI cyZ qb u) (wn := wX cyI cyZ cyT qa X1 ++ wM cyI cyZ qb M1) (jmV (As := []) (rest := [.int (r, X1).1]) ⟨hx, hb, hml, hown, hts⟩ (c_X8_fault l D cyI cyZ cyT qb H.size N M (r, M1) e2) (cwV 0 hts gL_law_X8_fault rfl rfl rfl (by decide +kernel) ⟨Nat.le_of_ble_eq_true rfl, Nat.le_of_ble_eq_true rfl⟩) hK (hP.sub (ws' := wM cyI cyZ qb M) [55, 56, 57, 58, 59, 60, 61, 62, 63, 64, 65, 66, 67, 68] rfl) (hD.sub (ws' := wM cyI cyZ qb M) [55, 56, 57, 58, 59, 60, 61, 62, 63, 64, 65, 66, 67, 68] (by decide) rfl) rfl 8 0 rfl rfl rfl hl.1 (Nat.le_of_ble_eq_true rfl) dL_law_225 ⟨Nat.le_of_ble_eq_true rfl, Nat.le_of_ble_eq_true rfl⟩) hP hD hS hA [55, 56, 57, 58, 59, 60, 61, 62, 63, 64, 65, 66, 67, 68] [0, 1, 2, 3, 4, 5, 6, 7, 8, 9, 10, 11, 12, 13, 14, 15, 16, 17, 18, 19, 20, 21, 22, 23, 24, 25, 26, 27, 28, 29, 30, 31, 32, 33, 34, 35, 36, 37, 38, 39, 40, 41, 42, 43, 44, 45, 46, 47, 48, 49, 50, 51, 52, 53, 54] [0, 1, 2, 3, 4, 5, 6, 7, 8, 9, 10, 11, 12, 13, 14, 15, 16, 17, 18, 19, 20, 21, 22, 23, 24, 25, 26, 27, 28, 29, 30, 31, 32, 33, 34, 35, 36, 37, 38, 39, 40, 41, 42, 43, 44, 45, 46, 47, 48, 49, 50, 51, 52, 53, 54, 55, 56, 57, 58, 59, 60, 61, 62, 63, 64, 65, 66, 67, 68] rfl rfl (by decide) (by decide) rfl (by decide) (fun H locs hP hD hS => ?_)
  refine lv_icmp_eq (tgt := 1098) hx hb dL_law_228 (by decide) (fun _ => ?_) (fun c => absurd rfl c)
  exact hk X1 M1 hRel1 H locs hP hD hS ls hl
set_option maxHeartbeats 4000000 in
set_option maxRecDepth 100000 in
theorem law_house {p : Program} {l : Launch} {e : Env} {s : State} {m : MethodId} {below : List Frame} {meth : Method} {c : Code} {D : va_G} {cyI cyZ cyT : ClassId} {adK adV qa qb : Nat → Nat} {b L : Nat} {xs : Nat → Int32} {N : Nat} {Rel : BX → Mo → Prop} (C0 : lw_At p s m meth c b L xs) (hK : jK D cyI cyZ cyT s) (hZ : jStr adK adV (fun q : Nat => s.heap.size ≤ q) s s.heap) (x3 : Int32) (hin : ∀ k : Int32, k ≤ 5 → ¬ k < 0 → vp_in (x3 + k) L) (hR : ∀ (X : BX) (M : Mo), Rel X M → ∃ (r : Int32) (X1 : BX) (M1 : Mo), f_X7_house N X = some (r, X1) ∧ f_X8_house N M = some (r, M1) ∧ Rel X1 M1) (hk : ∀ (X : BX) (M : Mo), Rel X M → ∀ (H : Heap) (locs : List Loc), va_P D vwCl (wX cyI cyZ cyT qa X ++ wM cyI cyZ qb M) H → va_D (fun q : Nat => s.heap.size ≤ q) (wX cyI cyZ cyT qa X ++ wM cyI cyZ qb M) → va_S (fun q : Nat => s.heap.size ≤ q) s.heap H locs → ∀ (ls : Array Slot), lv_has ls 4 [(0, .ref b), (1, .ref (qa 0)), (2, .ref (qb 0)), (3, .int x3)] → W p l e room_1 s m #[Value.ref b] below meth c H locs 69 821 (lw_Z below #[Value.ref b] s) (F0 m 1098 ls [])) (X : BX) (M : Mo) (hRel : Rel X M) (H : Heap) (locs : List Loc) : va_P D vwCl (wX cyI cyZ cyT qa X ++ wM cyI cyZ qb M) H → va_D (fun q : Nat => s.heap.size ≤ q) (wX cyI cyZ cyT qa X ++ wM cyI cyZ qb M) → va_S (fun q : Nat => s.heap.size ≤ q) s.heap H locs → ∀ (ls : Array Slot), lv_has ls 4 [(0, .ref b), (1, .ref (qa 0)), (2, .ref (qb 0)), (3, .int x3)] → W p l e room_1 s m #[Value.ref b] below meth c H locs 69 821 (lw_Z below #[Value.ref b] s) (F0 m 233 ls []) := by
  obtain ⟨hx, hb, hr, hml, hown, hts, hX, hbl, hlocks, hgv⟩ := C0
  have hts := fun w h => hts w (wsL_law_in w h)
  have hA : ∀ q : Nat, s.heap.size ≤ q → (fun q : Nat => s.heap.size ≤ q) q := fun _ h => h
  have hbA : ¬ (fun q : Nat => s.heap.size ≤ q) b := Nat.not_le.mpr hbl
  intro hP hD hS ls hl
  obtain ⟨r, X1, M1, e1, e2, hRel1⟩ := hR  X M hRel
  refine lv_aload_n hx hb dL_law_233 rfl (lv_at hl 1 rfl) ?_
  refine jgi (w1 := fun u : BX => wX cyI cyZ cyT qa u) (wn := wX cyI cyZ cyT qa X1 ++ wM cyI cyZ qb M) (jmVs (As := []) (rest := []) ⟨hx, hb, hml, hown, hts⟩ (c_X7_house l D cyI cyZ cyT adK adV qa H.size N X (r, X1) e1) (cwV 0 hts gL_law_X7_house rfl rfl rfl (by decide +kernel) ⟨Nat.le_of_ble_eq_true rfl, Nat.le_of_ble_eq_true rfl⟩) hK (hP.sub (ws' := wX cyI cyZ cyT qa X) [0, 1, 2, 3, 4, 5, 6, 7, 8, 9, 10, 11, 12, 13, 14, 15, 16, 17, 18, 19, 20, 21, 22, 23, 24, 25, 26, 27, 28, 29, 30, 31, 32, 33, 34, 35, 36, 37, 38, 39, 40, 41, 42, 43, 44, 45, 46, 47, 48, 49, 50, 51, 52, 53, 54] rfl) (hD.sub (ws' := wX cyI cyZ cyT qa X) [0, 1, 2, 3, 4, 5, 6, 7, 8, 9, 10, 11, 12, 13, 14, 15, 16, 17, 18, 19, 20, 21, 22, 23, 24, 25, 26, 27, 28, 29, 30, 31, 32, 33, 34, 35, 36, 37, 38, 39, 40, 41, 42, 43, 44, 45, 46, 47, 48, 49, 50, 51, 52, 53, 54] (by decide) rfl) ((hZ.kept hS.2.1).narrow (va_free (wc := wX cyI cyZ cyT qa X) hD hS hA [0, 1, 2, 3, 4, 5, 6, 7, 8, 9, 10, 11, 12, 13, 14, 15, 16, 17, 18, 19, 20, 21, 22, 23, 24, 25, 26, 27, 28, 29, 30, 31, 32, 33, 34, 35, 36, 37, 38, 39, 40, 41, 42, 43, 44, 45, 46, 47, 48, 49, 50, 51, 52, 53, 54] rfl)) rfl 7 0 rfl rfl rfl hl.1 (Nat.le_of_ble_eq_true rfl) dL_law_234 ⟨Nat.le_of_ble_eq_true rfl, Nat.le_of_ble_eq_true rfl⟩) hP hD hS hA [0, 1, 2, 3, 4, 5, 6, 7, 8, 9, 10, 11, 12, 13, 14, 15, 16, 17, 18, 19, 20, 21, 22, 23, 24, 25, 26, 27, 28, 29, 30, 31, 32, 33, 34, 35, 36, 37, 38, 39, 40, 41, 42, 43, 44, 45, 46, 47, 48, 49, 50, 51, 52, 53, 54] [55, 56, 57, 58, 59, 60, 61, 62, 63, 64, 65, 66, 67, 68] [14, 15, 16, 17, 18, 19, 20, 21, 22, 23, 24, 25, 26, 27, 28, 29, 30, 31, 32, 33, 34, 35, 36, 37, 38, 39, 40, 41, 42, 43, 44, 45, 46, 47, 48, 49, 50, 51, 52, 53, 54, 55, 56, 57, 58, 59, 60, 61, 62, 63, 64, 65, 66, 67, 68, 0, 1, 2, 3, 4, 5, 6, 7, 8, 9, 10, 11, 12, 13] rfl rfl (by decide) (by decide) rfl (by decide) (fun H locs hP hD hS => ?_)
  refine lv_aload_n hx hb dL_law_237 rfl (lv_at hl 2 rfl) ?_
  refine jgi (w1 := fun u : Mo => wM cyI cyZ qb u) (wn := wX cyI cyZ cyT qa X1 ++ wM cyI cyZ qb M1) (jmV (As := []) (rest := [.int (r, X1).1]) ⟨hx, hb, hml, hown, hts⟩ (c_X8_house l D cyI cyZ cyT qb H.size N M (r, M1) e2) (cwV 0 hts gL_law_X8_house rfl rfl rfl (by decide +kernel) ⟨Nat.le_of_ble_eq_true rfl, Nat.le_of_ble_eq_true rfl⟩) hK (hP.sub (ws' := wM cyI cyZ qb M) [55, 56, 57, 58, 59, 60, 61, 62, 63, 64, 65, 66, 67, 68] rfl) (hD.sub (ws' := wM cyI cyZ qb M) [55, 56, 57, 58, 59, 60, 61, 62, 63, 64, 65, 66, 67, 68] (by decide) rfl) rfl 8 0 rfl rfl rfl hl.1 (Nat.le_of_ble_eq_true rfl) dL_law_238 ⟨Nat.le_of_ble_eq_true rfl, Nat.le_of_ble_eq_true rfl⟩) hP hD hS hA [55, 56, 57, 58, 59, 60, 61, 62, 63, 64, 65, 66, 67, 68] [0, 1, 2, 3, 4, 5, 6, 7, 8, 9, 10, 11, 12, 13, 14, 15, 16, 17, 18, 19, 20, 21, 22, 23, 24, 25, 26, 27, 28, 29, 30, 31, 32, 33, 34, 35, 36, 37, 38, 39, 40, 41, 42, 43, 44, 45, 46, 47, 48, 49, 50, 51, 52, 53, 54] [0, 1, 2, 3, 4, 5, 6, 7, 8, 9, 10, 11, 12, 13, 14, 15, 16, 17, 18, 19, 20, 21, 22, 23, 24, 25, 26, 27, 28, 29, 30, 31, 32, 33, 34, 35, 36, 37, 38, 39, 40, 41, 42, 43, 44, 45, 46, 47, 48, 49, 50, 51, 52, 53, 54, 55, 56, 57, 58, 59, 60, 61, 62, 63, 64, 65, 66, 67, 68] rfl rfl (by decide) (by decide) rfl (by decide) (fun H locs hP hD hS => ?_)
  refine lv_icmp_eq (tgt := 1098) hx hb dL_law_241 (by decide) (fun _ => ?_) (fun c => absurd rfl c)
  exact hk X1 M1 hRel1 H locs hP hD hS ls hl
set_option maxHeartbeats 4000000 in
set_option maxRecDepth 100000 in
theorem law_mouse {p : Program} {l : Launch} {e : Env} {s : State} {m : MethodId} {below : List Frame} {meth : Method} {c : Code} {D : va_G} {cyI cyZ cyT : ClassId} {adK adV qa qb : Nat → Nat} {b L : Nat} {xs : Nat → Int32} {N : Nat} {Rel : BX → Mo → Prop} (C0 : lw_At p s m meth c b L xs) (hK : jK D cyI cyZ cyT s) (hZ : jStr adK adV (fun q : Nat => s.heap.size ≤ q) s s.heap) (x3 : Int32) (hin : ∀ k : Int32, k ≤ 5 → ¬ k < 0 → vp_in (x3 + k) L) (hR : ∀ (a1 a2 : Int32) (X : BX) (M : Mo), Rel X M → ∃ (r : Int32) (M1 : Mo), f_X7_mouse N a1 a2 X = some r ∧ f_X8_mouse N a1 a2 M = some (r, M1) ∧ Rel X M1) (hk : ∀ (X : BX) (M : Mo), Rel X M → ∀ (H : Heap) (locs : List Loc), va_P D vwCl (wX cyI cyZ cyT qa X ++ wM cyI cyZ qb M) H → va_D (fun q : Nat => s.heap.size ≤ q) (wX cyI cyZ cyT qa X ++ wM cyI cyZ qb M) → va_S (fun q : Nat => s.heap.size ≤ q) s.heap H locs → ∀ (ls : Array Slot), lv_has ls 4 [(0, .ref b), (1, .ref (qa 0)), (2, .ref (qb 0)), (3, .int x3)] → W p l e room_1 s m #[Value.ref b] below meth c H locs 69 821 (lw_Z below #[Value.ref b] s) (F0 m 1098 ls [])) (X : BX) (M : Mo) (hRel : Rel X M) (H : Heap) (locs : List Loc) : va_P D vwCl (wX cyI cyZ cyT qa X ++ wM cyI cyZ qb M) H → va_D (fun q : Nat => s.heap.size ≤ q) (wX cyI cyZ cyT qa X ++ wM cyI cyZ qb M) → va_S (fun q : Nat => s.heap.size ≤ q) s.heap H locs → ∀ (ls : Array Slot), lv_has ls 4 [(0, .ref b), (1, .ref (qa 0)), (2, .ref (qb 0)), (3, .int x3)] → W p l e room_1 s m #[Value.ref b] below meth c H locs 69 821 (lw_Z below #[Value.ref b] s) (F0 m 246 ls []) := by
  obtain ⟨hx, hb, hr, hml, hown, hts, hX, hbl, hlocks, hgv⟩ := C0
  have hts := fun w h => hts w (wsL_law_in w h)
  have hA : ∀ q : Nat, s.heap.size ≤ q → (fun q : Nat => s.heap.size ≤ q) q := fun _ h => h
  have hbA : ¬ (fun q : Nat => s.heap.size ≤ q) b := Nat.not_le.mpr hbl
  intro hP hD hS ls hl
  obtain ⟨r, M1, e1, e2, hRel1⟩ := hR (xs (x3 + 1).toNatClampNeg) (xs (x3 + 2).toNatClampNeg) X M hRel
  refine lv_aload_n hx hb dL_law_246 rfl (lv_at hl 1 rfl) ?_
  refine lv_aload_n hx hb dL_law_247 rfl (lv_at hl 0 rfl) ?_
  refine lv_iload_n hx hb dL_law_248 rfl (lv_at hl 3 rfl) ?_
  refine lv_iconst (v := 1) hx hb dL_law_249 (by decide) ?_
  refine lv_iadd hx hb dL_law_250 ?_
  refine va_sld hx hb hX hbl hbA hS (hin 1 (by decide) (by decide)) dL_law_251 ?_
  refine lv_aload_n hx hb dL_law_252 rfl (lv_at hl 0 rfl) ?_
  refine lv_iload_n hx hb dL_law_253 rfl (lv_at hl 3 rfl) ?_
  refine lv_iconst (v := 2) hx hb dL_law_254 (by decide) ?_
  refine lv_iadd hx hb dL_law_255 ?_
  refine va_sld hx hb hX hbl hbA hS (hin 2 (by decide) (by decide)) dL_law_256 ?_
  refine jki (jrV (As := [.int (xs (x3 + 1).toNatClampNeg), .int (xs (x3 + 2).toNatClampNeg)]) (rest := []) ⟨hx, hb, hml, hown, hts⟩ (c_X7_mouse l D cyI cyZ cyT qa N (xs (x3 + 1).toNatClampNeg) (xs (x3 + 2).toNatClampNeg) X r e1) (cwV 2 hts gL_law_X7_mouse rfl rfl rfl (by decide +kernel) ⟨Nat.le_of_ble_eq_true rfl, Nat.le_of_ble_eq_true rfl⟩) hK (hP.sub (ws' := wX cyI cyZ cyT qa X) [0, 1, 2, 3, 4, 5, 6, 7, 8, 9, 10, 11, 12, 13, 14, 15, 16, 17, 18, 19, 20, 21, 22, 23, 24, 25, 26, 27, 28, 29, 30, 31, 32, 33, 34, 35, 36, 37, 38, 39, 40, 41, 42, 43, 44, 45, 46, 47, 48, 49, 50, 51, 52, 53, 54] rfl) rfl 7 0 rfl rfl rfl hl.1 (Nat.le_of_ble_eq_true rfl) dL_law_257 ⟨Nat.le_of_ble_eq_true rfl, Nat.le_of_ble_eq_true rfl⟩) ?_
  refine lv_aload_n hx hb dL_law_260 rfl (lv_at hl 2 rfl) ?_
  refine lv_aload_n hx hb dL_law_261 rfl (lv_at hl 0 rfl) ?_
  refine lv_iload_n hx hb dL_law_262 rfl (lv_at hl 3 rfl) ?_
  refine lv_iconst (v := 1) hx hb dL_law_263 (by decide) ?_
  refine lv_iadd hx hb dL_law_264 ?_
  refine va_sld hx hb hX hbl hbA hS (hin 1 (by decide) (by decide)) dL_law_265 ?_
  refine lv_aload_n hx hb dL_law_266 rfl (lv_at hl 0 rfl) ?_
  refine lv_iload_n hx hb dL_law_267 rfl (lv_at hl 3 rfl) ?_
  refine lv_iconst (v := 2) hx hb dL_law_268 (by decide) ?_
  refine lv_iadd hx hb dL_law_269 ?_
  refine va_sld hx hb hX hbl hbA hS (hin 2 (by decide) (by decide)) dL_law_270 ?_
  refine jgi (w1 := fun u : Mo => wM cyI cyZ qb u) (wn := wX cyI cyZ cyT qa X ++ wM cyI cyZ qb M1) (jmV (As := [.int (xs (x3 + 1).toNatClampNeg), .int (xs (x3 + 2).toNatClampNeg)]) (rest := [.int r]) ⟨hx, hb, hml, hown, hts⟩ (c_X8_mouse l D cyI cyZ cyT qb H.size N (xs (x3 + 1).toNatClampNeg) (xs (x3 + 2).toNatClampNeg) M (r, M1) e2) (cwV 2 hts gL_law_X8_mouse rfl rfl rfl (by decide +kernel) ⟨Nat.le_of_ble_eq_true rfl, Nat.le_of_ble_eq_true rfl⟩) hK (hP.sub (ws' := wM cyI cyZ qb M) [55, 56, 57, 58, 59, 60, 61, 62, 63, 64, 65, 66, 67, 68] rfl) (hD.sub (ws' := wM cyI cyZ qb M) [55, 56, 57, 58, 59, 60, 61, 62, 63, 64, 65, 66, 67, 68] (by decide) rfl) rfl 8 0 rfl rfl rfl hl.1 (Nat.le_of_ble_eq_true rfl) dL_law_271 ⟨Nat.le_of_ble_eq_true rfl, Nat.le_of_ble_eq_true rfl⟩) hP hD hS hA [55, 56, 57, 58, 59, 60, 61, 62, 63, 64, 65, 66, 67, 68] [0, 1, 2, 3, 4, 5, 6, 7, 8, 9, 10, 11, 12, 13, 14, 15, 16, 17, 18, 19, 20, 21, 22, 23, 24, 25, 26, 27, 28, 29, 30, 31, 32, 33, 34, 35, 36, 37, 38, 39, 40, 41, 42, 43, 44, 45, 46, 47, 48, 49, 50, 51, 52, 53, 54] [0, 1, 2, 3, 4, 5, 6, 7, 8, 9, 10, 11, 12, 13, 14, 15, 16, 17, 18, 19, 20, 21, 22, 23, 24, 25, 26, 27, 28, 29, 30, 31, 32, 33, 34, 35, 36, 37, 38, 39, 40, 41, 42, 43, 44, 45, 46, 47, 48, 49, 50, 51, 52, 53, 54, 55, 56, 57, 58, 59, 60, 61, 62, 63, 64, 65, 66, 67, 68] rfl rfl (by decide) (by decide) rfl (by decide) (fun H locs hP hD hS => ?_)
  refine lv_icmp_eq (tgt := 1098) hx hb dL_law_274 (by decide) (fun _ => ?_) (fun c => absurd rfl c)
  exact hk X M1 hRel1 H locs hP hD hS ls hl
set_option maxHeartbeats 4000000 in
set_option maxRecDepth 100000 in
theorem law_step {p : Program} {l : Launch} {e : Env} {s : State} {m : MethodId} {below : List Frame} {meth : Method} {c : Code} {D : va_G} {cyI cyZ cyT : ClassId} {adK adV qa qb : Nat → Nat} {b L : Nat} {xs : Nat → Int32} {N : Nat} {Rel : BX → Mo → Prop} (C0 : lw_At p s m meth c b L xs) (hK : jK D cyI cyZ cyT s) (hZ : jStr adK adV (fun q : Nat => s.heap.size ≤ q) s s.heap) (x3 : Int32) (hin : ∀ k : Int32, k ≤ 5 → ¬ k < 0 → vp_in (x3 + k) L) (hR : ∀ (a1 a2 : Int32) (X : BX) (M : Mo), Rel X M → ∃ (r : Int32) (M1 : Mo), f_X7_step a1 a2 X = some r ∧ f_X8_step a1 a2 M = some (r, M1) ∧ Rel X M1) (hk : ∀ (X : BX) (M : Mo), Rel X M → ∀ (H : Heap) (locs : List Loc), va_P D vwCl (wX cyI cyZ cyT qa X ++ wM cyI cyZ qb M) H → va_D (fun q : Nat => s.heap.size ≤ q) (wX cyI cyZ cyT qa X ++ wM cyI cyZ qb M) → va_S (fun q : Nat => s.heap.size ≤ q) s.heap H locs → ∀ (ls : Array Slot), lv_has ls 4 [(0, .ref b), (1, .ref (qa 0)), (2, .ref (qb 0)), (3, .int x3)] → W p l e room_1 s m #[Value.ref b] below meth c H locs 69 821 (lw_Z below #[Value.ref b] s) (F0 m 1098 ls [])) (X : BX) (M : Mo) (hRel : Rel X M) (H : Heap) (locs : List Loc) : va_P D vwCl (wX cyI cyZ cyT qa X ++ wM cyI cyZ qb M) H → va_D (fun q : Nat => s.heap.size ≤ q) (wX cyI cyZ cyT qa X ++ wM cyI cyZ qb M) → va_S (fun q : Nat => s.heap.size ≤ q) s.heap H locs → ∀ (ls : Array Slot), lv_has ls 4 [(0, .ref b), (1, .ref (qa 0)), (2, .ref (qb 0)), (3, .int x3)] → W p l e room_1 s m #[Value.ref b] below meth c H locs 69 821 (lw_Z below #[Value.ref b] s) (F0 m 279 ls []) := by
  obtain ⟨hx, hb, hr, hml, hown, hts, hX, hbl, hlocks, hgv⟩ := C0
  have hts := fun w h => hts w (wsL_law_in w h)
  have hA : ∀ q : Nat, s.heap.size ≤ q → (fun q : Nat => s.heap.size ≤ q) q := fun _ h => h
  have hbA : ¬ (fun q : Nat => s.heap.size ≤ q) b := Nat.not_le.mpr hbl
  intro hP hD hS ls hl
  obtain ⟨r, M1, e1, e2, hRel1⟩ := hR (xs (x3 + 1).toNatClampNeg) (xs (x3 + 2).toNatClampNeg) X M hRel
  refine lv_aload_n hx hb dL_law_279 rfl (lv_at hl 1 rfl) ?_
  refine lv_aload_n hx hb dL_law_280 rfl (lv_at hl 0 rfl) ?_
  refine lv_iload_n hx hb dL_law_281 rfl (lv_at hl 3 rfl) ?_
  refine lv_iconst (v := 1) hx hb dL_law_282 (by decide) ?_
  refine lv_iadd hx hb dL_law_283 ?_
  refine va_sld hx hb hX hbl hbA hS (hin 1 (by decide) (by decide)) dL_law_284 ?_
  refine lv_aload_n hx hb dL_law_285 rfl (lv_at hl 0 rfl) ?_
  refine lv_iload_n hx hb dL_law_286 rfl (lv_at hl 3 rfl) ?_
  refine lv_iconst (v := 2) hx hb dL_law_287 (by decide) ?_
  refine lv_iadd hx hb dL_law_288 ?_
  refine va_sld hx hb hX hbl hbA hS (hin 2 (by decide) (by decide)) dL_law_289 ?_
  refine jki (jrV (As := [.int (xs (x3 + 1).toNatClampNeg), .int (xs (x3 + 2).toNatClampNeg)]) (rest := []) ⟨hx, hb, hml, hown, hts⟩ (c_X7_step l D cyI cyZ cyT qa (xs (x3 + 1).toNatClampNeg) (xs (x3 + 2).toNatClampNeg) X r e1) (cwV 2 hts gL_law_X7_step rfl rfl rfl (by decide +kernel) ⟨Nat.le_of_ble_eq_true rfl, Nat.le_of_ble_eq_true rfl⟩) hK (hP.sub (ws' := wX cyI cyZ cyT qa X) [0, 1, 2, 3, 4, 5, 6, 7, 8, 9, 10, 11, 12, 13, 14, 15, 16, 17, 18, 19, 20, 21, 22, 23, 24, 25, 26, 27, 28, 29, 30, 31, 32, 33, 34, 35, 36, 37, 38, 39, 40, 41, 42, 43, 44, 45, 46, 47, 48, 49, 50, 51, 52, 53, 54] rfl) rfl 7 0 rfl rfl rfl hl.1 (Nat.le_of_ble_eq_true rfl) dL_law_290 ⟨Nat.le_of_ble_eq_true rfl, Nat.le_of_ble_eq_true rfl⟩) ?_
  refine lv_aload_n hx hb dL_law_293 rfl (lv_at hl 2 rfl) ?_
  refine lv_aload_n hx hb dL_law_294 rfl (lv_at hl 0 rfl) ?_
  refine lv_iload_n hx hb dL_law_295 rfl (lv_at hl 3 rfl) ?_
  refine lv_iconst (v := 1) hx hb dL_law_296 (by decide) ?_
  refine lv_iadd hx hb dL_law_297 ?_
  refine va_sld hx hb hX hbl hbA hS (hin 1 (by decide) (by decide)) dL_law_298 ?_
  refine lv_aload_n hx hb dL_law_299 rfl (lv_at hl 0 rfl) ?_
  refine lv_iload_n hx hb dL_law_300 rfl (lv_at hl 3 rfl) ?_
  refine lv_iconst (v := 2) hx hb dL_law_301 (by decide) ?_
  refine lv_iadd hx hb dL_law_302 ?_
  refine va_sld hx hb hX hbl hbA hS (hin 2 (by decide) (by decide)) dL_law_303 ?_
  refine jgi (w1 := fun u : Mo => wM cyI cyZ qb u) (wn := wX cyI cyZ cyT qa X ++ wM cyI cyZ qb M1) (jmV (As := [.int (xs (x3 + 1).toNatClampNeg), .int (xs (x3 + 2).toNatClampNeg)]) (rest := [.int r]) ⟨hx, hb, hml, hown, hts⟩ (c_X8_step l D cyI cyZ cyT qb H.size (xs (x3 + 1).toNatClampNeg) (xs (x3 + 2).toNatClampNeg) M (r, M1) e2) (cwV 2 hts gL_law_X8_step rfl rfl rfl (by decide +kernel) ⟨Nat.le_of_ble_eq_true rfl, Nat.le_of_ble_eq_true rfl⟩) hK (hP.sub (ws' := wM cyI cyZ qb M) [55, 56, 57, 58, 59, 60, 61, 62, 63, 64, 65, 66, 67, 68] rfl) (hD.sub (ws' := wM cyI cyZ qb M) [55, 56, 57, 58, 59, 60, 61, 62, 63, 64, 65, 66, 67, 68] (by decide) rfl) rfl 8 0 rfl rfl rfl hl.1 (Nat.le_of_ble_eq_true rfl) dL_law_304 ⟨Nat.le_of_ble_eq_true rfl, Nat.le_of_ble_eq_true rfl⟩) hP hD hS hA [55, 56, 57, 58, 59, 60, 61, 62, 63, 64, 65, 66, 67, 68] [0, 1, 2, 3, 4, 5, 6, 7, 8, 9, 10, 11, 12, 13, 14, 15, 16, 17, 18, 19, 20, 21, 22, 23, 24, 25, 26, 27, 28, 29, 30, 31, 32, 33, 34, 35, 36, 37, 38, 39, 40, 41, 42, 43, 44, 45, 46, 47, 48, 49, 50, 51, 52, 53, 54] [0, 1, 2, 3, 4, 5, 6, 7, 8, 9, 10, 11, 12, 13, 14, 15, 16, 17, 18, 19, 20, 21, 22, 23, 24, 25, 26, 27, 28, 29, 30, 31, 32, 33, 34, 35, 36, 37, 38, 39, 40, 41, 42, 43, 44, 45, 46, 47, 48, 49, 50, 51, 52, 53, 54, 55, 56, 57, 58, 59, 60, 61, 62, 63, 64, 65, 66, 67, 68] rfl rfl (by decide) (by decide) rfl (by decide) (fun H locs hP hD hS => ?_)
  refine lv_icmp_eq (tgt := 1098) hx hb dL_law_307 (by decide) (fun _ => ?_) (fun c => absurd rfl c)
  exact hk X M1 hRel1 H locs hP hD hS ls hl
set_option maxHeartbeats 4000000 in
set_option maxRecDepth 100000 in
theorem law_rat {p : Program} {l : Launch} {e : Env} {s : State} {m : MethodId} {below : List Frame} {meth : Method} {c : Code} {D : va_G} {cyI cyZ cyT : ClassId} {adK adV qa qb : Nat → Nat} {b L : Nat} {xs : Nat → Int32} {N : Nat} {Rel : BX → Mo → Prop} (C0 : lw_At p s m meth c b L xs) (hK : jK D cyI cyZ cyT s) (hZ : jStr adK adV (fun q : Nat => s.heap.size ≤ q) s s.heap) (x3 : Int32) (hin : ∀ k : Int32, k ≤ 5 → ¬ k < 0 → vp_in (x3 + k) L) (hR : ∀ (a1 a2 : Int32) (X : BX) (M : Mo), Rel X M → ∃ (r : Int32) (M1 : Mo), f_X7_rat a1 a2 X = some r ∧ f_X8_rat a1 a2 M = some (r, M1) ∧ Rel X M1) (hk : ∀ (X : BX) (M : Mo), Rel X M → ∀ (H : Heap) (locs : List Loc), va_P D vwCl (wX cyI cyZ cyT qa X ++ wM cyI cyZ qb M) H → va_D (fun q : Nat => s.heap.size ≤ q) (wX cyI cyZ cyT qa X ++ wM cyI cyZ qb M) → va_S (fun q : Nat => s.heap.size ≤ q) s.heap H locs → ∀ (ls : Array Slot), lv_has ls 4 [(0, .ref b), (1, .ref (qa 0)), (2, .ref (qb 0)), (3, .int x3)] → W p l e room_1 s m #[Value.ref b] below meth c H locs 69 821 (lw_Z below #[Value.ref b] s) (F0 m 1098 ls [])) (X : BX) (M : Mo) (hRel : Rel X M) (H : Heap) (locs : List Loc) : va_P D vwCl (wX cyI cyZ cyT qa X ++ wM cyI cyZ qb M) H → va_D (fun q : Nat => s.heap.size ≤ q) (wX cyI cyZ cyT qa X ++ wM cyI cyZ qb M) → va_S (fun q : Nat => s.heap.size ≤ q) s.heap H locs → ∀ (ls : Array Slot), lv_has ls 4 [(0, .ref b), (1, .ref (qa 0)), (2, .ref (qb 0)), (3, .int x3)] → W p l e room_1 s m #[Value.ref b] below meth c H locs 69 821 (lw_Z below #[Value.ref b] s) (F0 m 312 ls []) := by
  obtain ⟨hx, hb, hr, hml, hown, hts, hX, hbl, hlocks, hgv⟩ := C0
  have hts := fun w h => hts w (wsL_law_in w h)
  have hA : ∀ q : Nat, s.heap.size ≤ q → (fun q : Nat => s.heap.size ≤ q) q := fun _ h => h
  have hbA : ¬ (fun q : Nat => s.heap.size ≤ q) b := Nat.not_le.mpr hbl
  intro hP hD hS ls hl
  obtain ⟨r, M1, e1, e2, hRel1⟩ := hR (xs (x3 + 1).toNatClampNeg) (xs (x3 + 2).toNatClampNeg) X M hRel
  refine lv_aload_n hx hb dL_law_312 rfl (lv_at hl 1 rfl) ?_
  refine lv_aload_n hx hb dL_law_313 rfl (lv_at hl 0 rfl) ?_
  refine lv_iload_n hx hb dL_law_314 rfl (lv_at hl 3 rfl) ?_
  refine lv_iconst (v := 1) hx hb dL_law_315 (by decide) ?_
  refine lv_iadd hx hb dL_law_316 ?_
  refine va_sld hx hb hX hbl hbA hS (hin 1 (by decide) (by decide)) dL_law_317 ?_
  refine lv_aload_n hx hb dL_law_318 rfl (lv_at hl 0 rfl) ?_
  refine lv_iload_n hx hb dL_law_319 rfl (lv_at hl 3 rfl) ?_
  refine lv_iconst (v := 2) hx hb dL_law_320 (by decide) ?_
  refine lv_iadd hx hb dL_law_321 ?_
  refine va_sld hx hb hX hbl hbA hS (hin 2 (by decide) (by decide)) dL_law_322 ?_
  refine jki (jrV (As := [.int (xs (x3 + 1).toNatClampNeg), .int (xs (x3 + 2).toNatClampNeg)]) (rest := []) ⟨hx, hb, hml, hown, hts⟩ (c_X7_rat l D cyI cyZ cyT qa (xs (x3 + 1).toNatClampNeg) (xs (x3 + 2).toNatClampNeg) X r e1) (cwV 2 hts gL_law_X7_rat rfl rfl rfl (by decide +kernel) ⟨Nat.le_of_ble_eq_true rfl, Nat.le_of_ble_eq_true rfl⟩) hK (hP.sub (ws' := wX cyI cyZ cyT qa X) [0, 1, 2, 3, 4, 5, 6, 7, 8, 9, 10, 11, 12, 13, 14, 15, 16, 17, 18, 19, 20, 21, 22, 23, 24, 25, 26, 27, 28, 29, 30, 31, 32, 33, 34, 35, 36, 37, 38, 39, 40, 41, 42, 43, 44, 45, 46, 47, 48, 49, 50, 51, 52, 53, 54] rfl) rfl 7 0 rfl rfl rfl hl.1 (Nat.le_of_ble_eq_true rfl) dL_law_323 ⟨Nat.le_of_ble_eq_true rfl, Nat.le_of_ble_eq_true rfl⟩) ?_
  refine lv_aload_n hx hb dL_law_326 rfl (lv_at hl 2 rfl) ?_
  refine lv_aload_n hx hb dL_law_327 rfl (lv_at hl 0 rfl) ?_
  refine lv_iload_n hx hb dL_law_328 rfl (lv_at hl 3 rfl) ?_
  refine lv_iconst (v := 1) hx hb dL_law_329 (by decide) ?_
  refine lv_iadd hx hb dL_law_330 ?_
  refine va_sld hx hb hX hbl hbA hS (hin 1 (by decide) (by decide)) dL_law_331 ?_
  refine lv_aload_n hx hb dL_law_332 rfl (lv_at hl 0 rfl) ?_
  refine lv_iload_n hx hb dL_law_333 rfl (lv_at hl 3 rfl) ?_
  refine lv_iconst (v := 2) hx hb dL_law_334 (by decide) ?_
  refine lv_iadd hx hb dL_law_335 ?_
  refine va_sld hx hb hX hbl hbA hS (hin 2 (by decide) (by decide)) dL_law_336 ?_
  refine jgi (w1 := fun u : Mo => wM cyI cyZ qb u) (wn := wX cyI cyZ cyT qa X ++ wM cyI cyZ qb M1) (jmV (As := [.int (xs (x3 + 1).toNatClampNeg), .int (xs (x3 + 2).toNatClampNeg)]) (rest := [.int r]) ⟨hx, hb, hml, hown, hts⟩ (c_X8_rat l D cyI cyZ cyT qb H.size (xs (x3 + 1).toNatClampNeg) (xs (x3 + 2).toNatClampNeg) M (r, M1) e2) (cwV 2 hts gL_law_X8_rat rfl rfl rfl (by decide +kernel) ⟨Nat.le_of_ble_eq_true rfl, Nat.le_of_ble_eq_true rfl⟩) hK (hP.sub (ws' := wM cyI cyZ qb M) [55, 56, 57, 58, 59, 60, 61, 62, 63, 64, 65, 66, 67, 68] rfl) (hD.sub (ws' := wM cyI cyZ qb M) [55, 56, 57, 58, 59, 60, 61, 62, 63, 64, 65, 66, 67, 68] (by decide) rfl) rfl 8 0 rfl rfl rfl hl.1 (Nat.le_of_ble_eq_true rfl) dL_law_337 ⟨Nat.le_of_ble_eq_true rfl, Nat.le_of_ble_eq_true rfl⟩) hP hD hS hA [55, 56, 57, 58, 59, 60, 61, 62, 63, 64, 65, 66, 67, 68] [0, 1, 2, 3, 4, 5, 6, 7, 8, 9, 10, 11, 12, 13, 14, 15, 16, 17, 18, 19, 20, 21, 22, 23, 24, 25, 26, 27, 28, 29, 30, 31, 32, 33, 34, 35, 36, 37, 38, 39, 40, 41, 42, 43, 44, 45, 46, 47, 48, 49, 50, 51, 52, 53, 54] [0, 1, 2, 3, 4, 5, 6, 7, 8, 9, 10, 11, 12, 13, 14, 15, 16, 17, 18, 19, 20, 21, 22, 23, 24, 25, 26, 27, 28, 29, 30, 31, 32, 33, 34, 35, 36, 37, 38, 39, 40, 41, 42, 43, 44, 45, 46, 47, 48, 49, 50, 51, 52, 53, 54, 55, 56, 57, 58, 59, 60, 61, 62, 63, 64, 65, 66, 67, 68] rfl rfl (by decide) (by decide) rfl (by decide) (fun H locs hP hD hS => ?_)
  refine lv_icmp_eq (tgt := 1098) hx hb dL_law_340 (by decide) (fun _ => ?_) (fun c => absurd rfl c)
  exact hk X M1 hRel1 H locs hP hD hS ls hl
set_option maxHeartbeats 4000000 in
set_option maxRecDepth 100000 in
theorem law_as {p : Program} {l : Launch} {e : Env} {s : State} {m : MethodId} {below : List Frame} {meth : Method} {c : Code} {D : va_G} {cyI cyZ cyT : ClassId} {adK adV qa qb : Nat → Nat} {b L : Nat} {xs : Nat → Int32} {N : Nat} {Rel : BX → Mo → Prop} (C0 : lw_At p s m meth c b L xs) (hK : jK D cyI cyZ cyT s) (hZ : jStr adK adV (fun q : Nat => s.heap.size ≤ q) s s.heap) (x3 : Int32) (hin : ∀ k : Int32, k ≤ 5 → ¬ k < 0 → vp_in (x3 + k) L) (hR : ∀ (a1 a2 : Int32) (X : BX) (M : Mo), Rel X M → ∃ (r : Int32) (M1 : Mo), f_X7_as a1 a2 X = some r ∧ f_X8_as a1 a2 M = some (r, M1) ∧ Rel X M1) (hk : ∀ (X : BX) (M : Mo), Rel X M → ∀ (H : Heap) (locs : List Loc), va_P D vwCl (wX cyI cyZ cyT qa X ++ wM cyI cyZ qb M) H → va_D (fun q : Nat => s.heap.size ≤ q) (wX cyI cyZ cyT qa X ++ wM cyI cyZ qb M) → va_S (fun q : Nat => s.heap.size ≤ q) s.heap H locs → ∀ (ls : Array Slot), lv_has ls 4 [(0, .ref b), (1, .ref (qa 0)), (2, .ref (qb 0)), (3, .int x3)] → W p l e room_1 s m #[Value.ref b] below meth c H locs 69 821 (lw_Z below #[Value.ref b] s) (F0 m 1098 ls [])) (X : BX) (M : Mo) (hRel : Rel X M) (H : Heap) (locs : List Loc) : va_P D vwCl (wX cyI cyZ cyT qa X ++ wM cyI cyZ qb M) H → va_D (fun q : Nat => s.heap.size ≤ q) (wX cyI cyZ cyT qa X ++ wM cyI cyZ qb M) → va_S (fun q : Nat => s.heap.size ≤ q) s.heap H locs → ∀ (ls : Array Slot), lv_has ls 4 [(0, .ref b), (1, .ref (qa 0)), (2, .ref (qb 0)), (3, .int x3)] → W p l e room_1 s m #[Value.ref b] below meth c H locs 69 821 (lw_Z below #[Value.ref b] s) (F0 m 345 ls []) := by
  obtain ⟨hx, hb, hr, hml, hown, hts, hX, hbl, hlocks, hgv⟩ := C0
  have hts := fun w h => hts w (wsL_law_in w h)
  have hA : ∀ q : Nat, s.heap.size ≤ q → (fun q : Nat => s.heap.size ≤ q) q := fun _ h => h
  have hbA : ¬ (fun q : Nat => s.heap.size ≤ q) b := Nat.not_le.mpr hbl
  intro hP hD hS ls hl
  obtain ⟨r, M1, e1, e2, hRel1⟩ := hR (xs (x3 + 1).toNatClampNeg) (xs (x3 + 2).toNatClampNeg) X M hRel
  refine lv_aload_n hx hb dL_law_345 rfl (lv_at hl 1 rfl) ?_
  refine lv_aload_n hx hb dL_law_346 rfl (lv_at hl 0 rfl) ?_
  refine lv_iload_n hx hb dL_law_347 rfl (lv_at hl 3 rfl) ?_
  refine lv_iconst (v := 1) hx hb dL_law_348 (by decide) ?_
  refine lv_iadd hx hb dL_law_349 ?_
  refine va_sld hx hb hX hbl hbA hS (hin 1 (by decide) (by decide)) dL_law_350 ?_
  refine lv_aload_n hx hb dL_law_351 rfl (lv_at hl 0 rfl) ?_
  refine lv_iload_n hx hb dL_law_352 rfl (lv_at hl 3 rfl) ?_
  refine lv_iconst (v := 2) hx hb dL_law_353 (by decide) ?_
  refine lv_iadd hx hb dL_law_354 ?_
  refine va_sld hx hb hX hbl hbA hS (hin 2 (by decide) (by decide)) dL_law_355 ?_
  refine jki (jrV (As := [.int (xs (x3 + 1).toNatClampNeg), .int (xs (x3 + 2).toNatClampNeg)]) (rest := []) ⟨hx, hb, hml, hown, hts⟩ (c_X7_as l D cyI cyZ cyT qa (xs (x3 + 1).toNatClampNeg) (xs (x3 + 2).toNatClampNeg) X r e1) (cwV 2 hts gL_law_X7_as rfl rfl rfl (by decide +kernel) ⟨Nat.le_of_ble_eq_true rfl, Nat.le_of_ble_eq_true rfl⟩) hK (hP.sub (ws' := wX cyI cyZ cyT qa X) [0, 1, 2, 3, 4, 5, 6, 7, 8, 9, 10, 11, 12, 13, 14, 15, 16, 17, 18, 19, 20, 21, 22, 23, 24, 25, 26, 27, 28, 29, 30, 31, 32, 33, 34, 35, 36, 37, 38, 39, 40, 41, 42, 43, 44, 45, 46, 47, 48, 49, 50, 51, 52, 53, 54] rfl) rfl 7 0 rfl rfl rfl hl.1 (Nat.le_of_ble_eq_true rfl) dL_law_356 ⟨Nat.le_of_ble_eq_true rfl, Nat.le_of_ble_eq_true rfl⟩) ?_
  refine lv_aload_n hx hb dL_law_359 rfl (lv_at hl 2 rfl) ?_
  refine lv_aload_n hx hb dL_law_360 rfl (lv_at hl 0 rfl) ?_
  refine lv_iload_n hx hb dL_law_361 rfl (lv_at hl 3 rfl) ?_
  refine lv_iconst (v := 1) hx hb dL_law_362 (by decide) ?_
  refine lv_iadd hx hb dL_law_363 ?_
  refine va_sld hx hb hX hbl hbA hS (hin 1 (by decide) (by decide)) dL_law_364 ?_
  refine lv_aload_n hx hb dL_law_365 rfl (lv_at hl 0 rfl) ?_
  refine lv_iload_n hx hb dL_law_366 rfl (lv_at hl 3 rfl) ?_
  refine lv_iconst (v := 2) hx hb dL_law_367 (by decide) ?_
  refine lv_iadd hx hb dL_law_368 ?_
  refine va_sld hx hb hX hbl hbA hS (hin 2 (by decide) (by decide)) dL_law_369 ?_
  refine jgi (w1 := fun u : Mo => wM cyI cyZ qb u) (wn := wX cyI cyZ cyT qa X ++ wM cyI cyZ qb M1) (jmV (As := [.int (xs (x3 + 1).toNatClampNeg), .int (xs (x3 + 2).toNatClampNeg)]) (rest := [.int r]) ⟨hx, hb, hml, hown, hts⟩ (c_X8_as l D cyI cyZ cyT qb H.size (xs (x3 + 1).toNatClampNeg) (xs (x3 + 2).toNatClampNeg) M (r, M1) e2) (cwV 2 hts gL_law_X8_as rfl rfl rfl (by decide +kernel) ⟨Nat.le_of_ble_eq_true rfl, Nat.le_of_ble_eq_true rfl⟩) hK (hP.sub (ws' := wM cyI cyZ qb M) [55, 56, 57, 58, 59, 60, 61, 62, 63, 64, 65, 66, 67, 68] rfl) (hD.sub (ws' := wM cyI cyZ qb M) [55, 56, 57, 58, 59, 60, 61, 62, 63, 64, 65, 66, 67, 68] (by decide) rfl) rfl 8 0 rfl rfl rfl hl.1 (Nat.le_of_ble_eq_true rfl) dL_law_370 ⟨Nat.le_of_ble_eq_true rfl, Nat.le_of_ble_eq_true rfl⟩) hP hD hS hA [55, 56, 57, 58, 59, 60, 61, 62, 63, 64, 65, 66, 67, 68] [0, 1, 2, 3, 4, 5, 6, 7, 8, 9, 10, 11, 12, 13, 14, 15, 16, 17, 18, 19, 20, 21, 22, 23, 24, 25, 26, 27, 28, 29, 30, 31, 32, 33, 34, 35, 36, 37, 38, 39, 40, 41, 42, 43, 44, 45, 46, 47, 48, 49, 50, 51, 52, 53, 54] [0, 1, 2, 3, 4, 5, 6, 7, 8, 9, 10, 11, 12, 13, 14, 15, 16, 17, 18, 19, 20, 21, 22, 23, 24, 25, 26, 27, 28, 29, 30, 31, 32, 33, 34, 35, 36, 37, 38, 39, 40, 41, 42, 43, 44, 45, 46, 47, 48, 49, 50, 51, 52, 53, 54, 55, 56, 57, 58, 59, 60, 61, 62, 63, 64, 65, 66, 67, 68] rfl rfl (by decide) (by decide) rfl (by decide) (fun H locs hP hD hS => ?_)
  refine lv_icmp_eq (tgt := 1098) hx hb dL_law_373 (by decide) (fun _ => ?_) (fun c => absurd rfl c)
  exact hk X M1 hRel1 H locs hP hD hS ls hl
set_option maxHeartbeats 4000000 in
set_option maxRecDepth 100000 in
theorem law_danger {p : Program} {l : Launch} {e : Env} {s : State} {m : MethodId} {below : List Frame} {meth : Method} {c : Code} {D : va_G} {cyI cyZ cyT : ClassId} {adK adV qa qb : Nat → Nat} {b L : Nat} {xs : Nat → Int32} {N : Nat} {Rel : BX → Mo → Prop} (C0 : lw_At p s m meth c b L xs) (hK : jK D cyI cyZ cyT s) (hZ : jStr adK adV (fun q : Nat => s.heap.size ≤ q) s s.heap) (x3 : Int32) (hin : ∀ k : Int32, k ≤ 5 → ¬ k < 0 → vp_in (x3 + k) L) (hR : ∀ (a1 a2 : Int32) (X : BX) (M : Mo), Rel X M → ∃ (r : Int32) (M1 : Mo), f_X7_danger a1 a2 X = some r ∧ f_X8_danger a1 a2 M = some (r, M1) ∧ Rel X M1) (hk : ∀ (X : BX) (M : Mo), Rel X M → ∀ (H : Heap) (locs : List Loc), va_P D vwCl (wX cyI cyZ cyT qa X ++ wM cyI cyZ qb M) H → va_D (fun q : Nat => s.heap.size ≤ q) (wX cyI cyZ cyT qa X ++ wM cyI cyZ qb M) → va_S (fun q : Nat => s.heap.size ≤ q) s.heap H locs → ∀ (ls : Array Slot), lv_has ls 4 [(0, .ref b), (1, .ref (qa 0)), (2, .ref (qb 0)), (3, .int x3)] → W p l e room_1 s m #[Value.ref b] below meth c H locs 69 821 (lw_Z below #[Value.ref b] s) (F0 m 1098 ls [])) (X : BX) (M : Mo) (hRel : Rel X M) (H : Heap) (locs : List Loc) : va_P D vwCl (wX cyI cyZ cyT qa X ++ wM cyI cyZ qb M) H → va_D (fun q : Nat => s.heap.size ≤ q) (wX cyI cyZ cyT qa X ++ wM cyI cyZ qb M) → va_S (fun q : Nat => s.heap.size ≤ q) s.heap H locs → ∀ (ls : Array Slot), lv_has ls 4 [(0, .ref b), (1, .ref (qa 0)), (2, .ref (qb 0)), (3, .int x3)] → W p l e room_1 s m #[Value.ref b] below meth c H locs 69 821 (lw_Z below #[Value.ref b] s) (F0 m 378 ls []) := by
  obtain ⟨hx, hb, hr, hml, hown, hts, hX, hbl, hlocks, hgv⟩ := C0
  have hts := fun w h => hts w (wsL_law_in w h)
  have hA : ∀ q : Nat, s.heap.size ≤ q → (fun q : Nat => s.heap.size ≤ q) q := fun _ h => h
  have hbA : ¬ (fun q : Nat => s.heap.size ≤ q) b := Nat.not_le.mpr hbl
  intro hP hD hS ls hl
  obtain ⟨r, M1, e1, e2, hRel1⟩ := hR (xs (x3 + 1).toNatClampNeg) (xs (x3 + 2).toNatClampNeg) X M hRel
  refine lv_aload_n hx hb dL_law_378 rfl (lv_at hl 1 rfl) ?_
  refine lv_aload_n hx hb dL_law_379 rfl (lv_at hl 0 rfl) ?_
  refine lv_iload_n hx hb dL_law_380 rfl (lv_at hl 3 rfl) ?_
  refine lv_iconst (v := 1) hx hb dL_law_381 (by decide) ?_
  refine lv_iadd hx hb dL_law_382 ?_
  refine va_sld hx hb hX hbl hbA hS (hin 1 (by decide) (by decide)) dL_law_383 ?_
  refine lv_aload_n hx hb dL_law_384 rfl (lv_at hl 0 rfl) ?_
  refine lv_iload_n hx hb dL_law_385 rfl (lv_at hl 3 rfl) ?_
  refine lv_iconst (v := 2) hx hb dL_law_386 (by decide) ?_
  refine lv_iadd hx hb dL_law_387 ?_
  refine va_sld hx hb hX hbl hbA hS (hin 2 (by decide) (by decide)) dL_law_388 ?_
  refine jki (jrV (As := [.int (xs (x3 + 1).toNatClampNeg), .int (xs (x3 + 2).toNatClampNeg)]) (rest := []) ⟨hx, hb, hml, hown, hts⟩ (c_X7_danger l D cyI cyZ cyT qa (xs (x3 + 1).toNatClampNeg) (xs (x3 + 2).toNatClampNeg) X r e1) (cwV 2 hts gL_law_X7_danger rfl rfl rfl (by decide +kernel) ⟨Nat.le_of_ble_eq_true rfl, Nat.le_of_ble_eq_true rfl⟩) hK (hP.sub (ws' := wX cyI cyZ cyT qa X) [0, 1, 2, 3, 4, 5, 6, 7, 8, 9, 10, 11, 12, 13, 14, 15, 16, 17, 18, 19, 20, 21, 22, 23, 24, 25, 26, 27, 28, 29, 30, 31, 32, 33, 34, 35, 36, 37, 38, 39, 40, 41, 42, 43, 44, 45, 46, 47, 48, 49, 50, 51, 52, 53, 54] rfl) rfl 7 0 rfl rfl rfl hl.1 (Nat.le_of_ble_eq_true rfl) dL_law_389 ⟨Nat.le_of_ble_eq_true rfl, Nat.le_of_ble_eq_true rfl⟩) ?_
  refine lv_aload_n hx hb dL_law_392 rfl (lv_at hl 2 rfl) ?_
  refine lv_aload_n hx hb dL_law_393 rfl (lv_at hl 0 rfl) ?_
  refine lv_iload_n hx hb dL_law_394 rfl (lv_at hl 3 rfl) ?_
  refine lv_iconst (v := 1) hx hb dL_law_395 (by decide) ?_
  refine lv_iadd hx hb dL_law_396 ?_
  refine va_sld hx hb hX hbl hbA hS (hin 1 (by decide) (by decide)) dL_law_397 ?_
  refine lv_aload_n hx hb dL_law_398 rfl (lv_at hl 0 rfl) ?_
  refine lv_iload_n hx hb dL_law_399 rfl (lv_at hl 3 rfl) ?_
  refine lv_iconst (v := 2) hx hb dL_law_400 (by decide) ?_
  refine lv_iadd hx hb dL_law_401 ?_
  refine va_sld hx hb hX hbl hbA hS (hin 2 (by decide) (by decide)) dL_law_402 ?_
  refine jgi (w1 := fun u : Mo => wM cyI cyZ qb u) (wn := wX cyI cyZ cyT qa X ++ wM cyI cyZ qb M1) (jmV (As := [.int (xs (x3 + 1).toNatClampNeg), .int (xs (x3 + 2).toNatClampNeg)]) (rest := [.int r]) ⟨hx, hb, hml, hown, hts⟩ (c_X8_danger l D cyI cyZ cyT qb H.size (xs (x3 + 1).toNatClampNeg) (xs (x3 + 2).toNatClampNeg) M (r, M1) e2) (cwV 2 hts gL_law_X8_danger rfl rfl rfl (by decide +kernel) ⟨Nat.le_of_ble_eq_true rfl, Nat.le_of_ble_eq_true rfl⟩) hK (hP.sub (ws' := wM cyI cyZ qb M) [55, 56, 57, 58, 59, 60, 61, 62, 63, 64, 65, 66, 67, 68] rfl) (hD.sub (ws' := wM cyI cyZ qb M) [55, 56, 57, 58, 59, 60, 61, 62, 63, 64, 65, 66, 67, 68] (by decide) rfl) rfl 8 0 rfl rfl rfl hl.1 (Nat.le_of_ble_eq_true rfl) dL_law_403 ⟨Nat.le_of_ble_eq_true rfl, Nat.le_of_ble_eq_true rfl⟩) hP hD hS hA [55, 56, 57, 58, 59, 60, 61, 62, 63, 64, 65, 66, 67, 68] [0, 1, 2, 3, 4, 5, 6, 7, 8, 9, 10, 11, 12, 13, 14, 15, 16, 17, 18, 19, 20, 21, 22, 23, 24, 25, 26, 27, 28, 29, 30, 31, 32, 33, 34, 35, 36, 37, 38, 39, 40, 41, 42, 43, 44, 45, 46, 47, 48, 49, 50, 51, 52, 53, 54] [0, 1, 2, 3, 4, 5, 6, 7, 8, 9, 10, 11, 12, 13, 14, 15, 16, 17, 18, 19, 20, 21, 22, 23, 24, 25, 26, 27, 28, 29, 30, 31, 32, 33, 34, 35, 36, 37, 38, 39, 40, 41, 42, 43, 44, 45, 46, 47, 48, 49, 50, 51, 52, 53, 54, 55, 56, 57, 58, 59, 60, 61, 62, 63, 64, 65, 66, 67, 68] rfl rfl (by decide) (by decide) rfl (by decide) (fun H locs hP hD hS => ?_)
  refine lv_icmp_eq (tgt := 1098) hx hb dL_law_406 (by decide) (fun _ => ?_) (fun c => absurd rfl c)
  exact hk X M1 hRel1 H locs hP hD hS ls hl
set_option maxHeartbeats 4000000 in
set_option maxRecDepth 100000 in
theorem law_put {p : Program} {l : Launch} {e : Env} {s : State} {m : MethodId} {below : List Frame} {meth : Method} {c : Code} {D : va_G} {cyI cyZ cyT : ClassId} {adK adV qa qb : Nat → Nat} {b L : Nat} {xs : Nat → Int32} {N : Nat} {Rel : BX → Mo → Prop} (C0 : lw_At p s m meth c b L xs) (hK : jK D cyI cyZ cyT s) (hZ : jStr adK adV (fun q : Nat => s.heap.size ≤ q) s s.heap) (x3 : Int32) (hin : ∀ k : Int32, k ≤ 5 → ¬ k < 0 → vp_in (x3 + k) L) (hR : ∀ (a1 a2 : Int32) (X : BX) (M : Mo), Rel X M → ∃ (r : Int32) (X1 : BX) (M1 : Mo), f_X7_put N a1 a2 X = some (r, X1) ∧ f_X8_put N a1 a2 M = some (r, M1) ∧ Rel X1 M1) (hk : ∀ (X : BX) (M : Mo), Rel X M → ∀ (H : Heap) (locs : List Loc), va_P D vwCl (wX cyI cyZ cyT qa X ++ wM cyI cyZ qb M) H → va_D (fun q : Nat => s.heap.size ≤ q) (wX cyI cyZ cyT qa X ++ wM cyI cyZ qb M) → va_S (fun q : Nat => s.heap.size ≤ q) s.heap H locs → ∀ (ls : Array Slot), lv_has ls 4 [(0, .ref b), (1, .ref (qa 0)), (2, .ref (qb 0)), (3, .int x3)] → W p l e room_1 s m #[Value.ref b] below meth c H locs 69 821 (lw_Z below #[Value.ref b] s) (F0 m 1098 ls [])) (X : BX) (M : Mo) (hRel : Rel X M) (H : Heap) (locs : List Loc) : va_P D vwCl (wX cyI cyZ cyT qa X ++ wM cyI cyZ qb M) H → va_D (fun q : Nat => s.heap.size ≤ q) (wX cyI cyZ cyT qa X ++ wM cyI cyZ qb M) → va_S (fun q : Nat => s.heap.size ≤ q) s.heap H locs → ∀ (ls : Array Slot), lv_has ls 4 [(0, .ref b), (1, .ref (qa 0)), (2, .ref (qb 0)), (3, .int x3)] → W p l e room_1 s m #[Value.ref b] below meth c H locs 69 821 (lw_Z below #[Value.ref b] s) (F0 m 411 ls []) := by
  obtain ⟨hx, hb, hr, hml, hown, hts, hX, hbl, hlocks, hgv⟩ := C0
  have hts := fun w h => hts w (wsL_law_in w h)
  have hA : ∀ q : Nat, s.heap.size ≤ q → (fun q : Nat => s.heap.size ≤ q) q := fun _ h => h
  have hbA : ¬ (fun q : Nat => s.heap.size ≤ q) b := Nat.not_le.mpr hbl
  intro hP hD hS ls hl
  obtain ⟨r, X1, M1, e1, e2, hRel1⟩ := hR (xs (x3 + 1).toNatClampNeg) (xs (x3 + 2).toNatClampNeg) X M hRel
  refine lv_aload_n hx hb dL_law_411 rfl (lv_at hl 1 rfl) ?_
  refine lv_aload_n hx hb dL_law_412 rfl (lv_at hl 0 rfl) ?_
  refine lv_iload_n hx hb dL_law_413 rfl (lv_at hl 3 rfl) ?_
  refine lv_iconst (v := 1) hx hb dL_law_414 (by decide) ?_
  refine lv_iadd hx hb dL_law_415 ?_
  refine va_sld hx hb hX hbl hbA hS (hin 1 (by decide) (by decide)) dL_law_416 ?_
  refine lv_aload_n hx hb dL_law_417 rfl (lv_at hl 0 rfl) ?_
  refine lv_iload_n hx hb dL_law_418 rfl (lv_at hl 3 rfl) ?_
  refine lv_iconst (v := 2) hx hb dL_law_419 (by decide) ?_
  refine lv_iadd hx hb dL_law_420 ?_
  refine va_sld hx hb hX hbl hbA hS (hin 2 (by decide) (by decide)) dL_law_421 ?_
  refine jgi (w1 := fun u : BX => wX cyI cyZ cyT qa u) (wn := wX cyI cyZ cyT qa X1 ++ wM cyI cyZ qb M) (jmV (As := [.int (xs (x3 + 1).toNatClampNeg), .int (xs (x3 + 2).toNatClampNeg)]) (rest := []) ⟨hx, hb, hml, hown, hts⟩ (c_X7_put l D cyI cyZ cyT qa H.size N (xs (x3 + 1).toNatClampNeg) (xs (x3 + 2).toNatClampNeg) X (r, X1) e1) (cwV 2 hts gL_law_X7_put rfl rfl rfl (by decide +kernel) ⟨Nat.le_of_ble_eq_true rfl, Nat.le_of_ble_eq_true rfl⟩) hK (hP.sub (ws' := wX cyI cyZ cyT qa X) [0, 1, 2, 3, 4, 5, 6, 7, 8, 9, 10, 11, 12, 13, 14, 15, 16, 17, 18, 19, 20, 21, 22, 23, 24, 25, 26, 27, 28, 29, 30, 31, 32, 33, 34, 35, 36, 37, 38, 39, 40, 41, 42, 43, 44, 45, 46, 47, 48, 49, 50, 51, 52, 53, 54] rfl) (hD.sub (ws' := wX cyI cyZ cyT qa X) [0, 1, 2, 3, 4, 5, 6, 7, 8, 9, 10, 11, 12, 13, 14, 15, 16, 17, 18, 19, 20, 21, 22, 23, 24, 25, 26, 27, 28, 29, 30, 31, 32, 33, 34, 35, 36, 37, 38, 39, 40, 41, 42, 43, 44, 45, 46, 47, 48, 49, 50, 51, 52, 53, 54] (by decide) rfl) rfl 7 0 rfl rfl rfl hl.1 (Nat.le_of_ble_eq_true rfl) dL_law_422 ⟨Nat.le_of_ble_eq_true rfl, Nat.le_of_ble_eq_true rfl⟩) hP hD hS hA [0, 1, 2, 3, 4, 5, 6, 7, 8, 9, 10, 11, 12, 13, 14, 15, 16, 17, 18, 19, 20, 21, 22, 23, 24, 25, 26, 27, 28, 29, 30, 31, 32, 33, 34, 35, 36, 37, 38, 39, 40, 41, 42, 43, 44, 45, 46, 47, 48, 49, 50, 51, 52, 53, 54] [55, 56, 57, 58, 59, 60, 61, 62, 63, 64, 65, 66, 67, 68] [14, 15, 16, 17, 18, 19, 20, 21, 22, 23, 24, 25, 26, 27, 28, 29, 30, 31, 32, 33, 34, 35, 36, 37, 38, 39, 40, 41, 42, 43, 44, 45, 46, 47, 48, 49, 50, 51, 52, 53, 54, 55, 56, 57, 58, 59, 60, 61, 62, 63, 64, 65, 66, 67, 68, 0, 1, 2, 3, 4, 5, 6, 7, 8, 9, 10, 11, 12, 13] rfl rfl (by decide) (by decide) rfl (by decide) (fun H locs hP hD hS => ?_)
  refine lv_aload_n hx hb dL_law_425 rfl (lv_at hl 2 rfl) ?_
  refine lv_aload_n hx hb dL_law_426 rfl (lv_at hl 0 rfl) ?_
  refine lv_iload_n hx hb dL_law_427 rfl (lv_at hl 3 rfl) ?_
  refine lv_iconst (v := 1) hx hb dL_law_428 (by decide) ?_
  refine lv_iadd hx hb dL_law_429 ?_
  refine va_sld hx hb hX hbl hbA hS (hin 1 (by decide) (by decide)) dL_law_430 ?_
  refine lv_aload_n hx hb dL_law_431 rfl (lv_at hl 0 rfl) ?_
  refine lv_iload_n hx hb dL_law_432 rfl (lv_at hl 3 rfl) ?_
  refine lv_iconst (v := 2) hx hb dL_law_433 (by decide) ?_
  refine lv_iadd hx hb dL_law_434 ?_
  refine va_sld hx hb hX hbl hbA hS (hin 2 (by decide) (by decide)) dL_law_435 ?_
  refine jgi (w1 := fun u : Mo => wM cyI cyZ qb u) (wn := wX cyI cyZ cyT qa X1 ++ wM cyI cyZ qb M1) (jmV (As := [.int (xs (x3 + 1).toNatClampNeg), .int (xs (x3 + 2).toNatClampNeg)]) (rest := [.int (r, X1).1]) ⟨hx, hb, hml, hown, hts⟩ (c_X8_put l D cyI cyZ cyT qb H.size N (xs (x3 + 1).toNatClampNeg) (xs (x3 + 2).toNatClampNeg) M (r, M1) e2) (cwV 2 hts gL_law_X8_put rfl rfl rfl (by decide +kernel) ⟨Nat.le_of_ble_eq_true rfl, Nat.le_of_ble_eq_true rfl⟩) hK (hP.sub (ws' := wM cyI cyZ qb M) [55, 56, 57, 58, 59, 60, 61, 62, 63, 64, 65, 66, 67, 68] rfl) (hD.sub (ws' := wM cyI cyZ qb M) [55, 56, 57, 58, 59, 60, 61, 62, 63, 64, 65, 66, 67, 68] (by decide) rfl) rfl 8 0 rfl rfl rfl hl.1 (Nat.le_of_ble_eq_true rfl) dL_law_436 ⟨Nat.le_of_ble_eq_true rfl, Nat.le_of_ble_eq_true rfl⟩) hP hD hS hA [55, 56, 57, 58, 59, 60, 61, 62, 63, 64, 65, 66, 67, 68] [0, 1, 2, 3, 4, 5, 6, 7, 8, 9, 10, 11, 12, 13, 14, 15, 16, 17, 18, 19, 20, 21, 22, 23, 24, 25, 26, 27, 28, 29, 30, 31, 32, 33, 34, 35, 36, 37, 38, 39, 40, 41, 42, 43, 44, 45, 46, 47, 48, 49, 50, 51, 52, 53, 54] [0, 1, 2, 3, 4, 5, 6, 7, 8, 9, 10, 11, 12, 13, 14, 15, 16, 17, 18, 19, 20, 21, 22, 23, 24, 25, 26, 27, 28, 29, 30, 31, 32, 33, 34, 35, 36, 37, 38, 39, 40, 41, 42, 43, 44, 45, 46, 47, 48, 49, 50, 51, 52, 53, 54, 55, 56, 57, 58, 59, 60, 61, 62, 63, 64, 65, 66, 67, 68] rfl rfl (by decide) (by decide) rfl (by decide) (fun H locs hP hD hS => ?_)
  refine lv_icmp_eq (tgt := 1098) hx hb dL_law_439 (by decide) (fun _ => ?_) (fun c => absurd rfl c)
  exact hk X1 M1 hRel1 H locs hP hD hS ls hl
set_option maxHeartbeats 4000000 in
set_option maxRecDepth 100000 in
theorem law_clear {p : Program} {l : Launch} {e : Env} {s : State} {m : MethodId} {below : List Frame} {meth : Method} {c : Code} {D : va_G} {cyI cyZ cyT : ClassId} {adK adV qa qb : Nat → Nat} {b L : Nat} {xs : Nat → Int32} {N : Nat} {Rel : BX → Mo → Prop} (C0 : lw_At p s m meth c b L xs) (hK : jK D cyI cyZ cyT s) (hZ : jStr adK adV (fun q : Nat => s.heap.size ≤ q) s s.heap) (x3 : Int32) (hin : ∀ k : Int32, k ≤ 5 → ¬ k < 0 → vp_in (x3 + k) L) (hR : ∀ (X : BX) (M : Mo), Rel X M → ∃ (r : Int32) (X1 : BX) (M1 : Mo), f_X7_clear N X = some (r, X1) ∧ f_X8_clear N M = some (r, M1) ∧ Rel X1 M1) (hk : ∀ (X : BX) (M : Mo), Rel X M → ∀ (H : Heap) (locs : List Loc), va_P D vwCl (wX cyI cyZ cyT qa X ++ wM cyI cyZ qb M) H → va_D (fun q : Nat => s.heap.size ≤ q) (wX cyI cyZ cyT qa X ++ wM cyI cyZ qb M) → va_S (fun q : Nat => s.heap.size ≤ q) s.heap H locs → ∀ (ls : Array Slot), lv_has ls 4 [(0, .ref b), (1, .ref (qa 0)), (2, .ref (qb 0)), (3, .int x3)] → W p l e room_1 s m #[Value.ref b] below meth c H locs 69 821 (lw_Z below #[Value.ref b] s) (F0 m 1098 ls [])) (X : BX) (M : Mo) (hRel : Rel X M) (H : Heap) (locs : List Loc) : va_P D vwCl (wX cyI cyZ cyT qa X ++ wM cyI cyZ qb M) H → va_D (fun q : Nat => s.heap.size ≤ q) (wX cyI cyZ cyT qa X ++ wM cyI cyZ qb M) → va_S (fun q : Nat => s.heap.size ≤ q) s.heap H locs → ∀ (ls : Array Slot), lv_has ls 4 [(0, .ref b), (1, .ref (qa 0)), (2, .ref (qb 0)), (3, .int x3)] → W p l e room_1 s m #[Value.ref b] below meth c H locs 69 821 (lw_Z below #[Value.ref b] s) (F0 m 444 ls []) := by
  obtain ⟨hx, hb, hr, hml, hown, hts, hX, hbl, hlocks, hgv⟩ := C0
  have hts := fun w h => hts w (wsL_law_in w h)
  have hA : ∀ q : Nat, s.heap.size ≤ q → (fun q : Nat => s.heap.size ≤ q) q := fun _ h => h
  have hbA : ¬ (fun q : Nat => s.heap.size ≤ q) b := Nat.not_le.mpr hbl
  intro hP hD hS ls hl
  obtain ⟨r, X1, M1, e1, e2, hRel1⟩ := hR  X M hRel
  refine lv_aload_n hx hb dL_law_444 rfl (lv_at hl 1 rfl) ?_
  refine jgi (w1 := fun u : BX => wX cyI cyZ cyT qa u) (wn := wX cyI cyZ cyT qa X1 ++ wM cyI cyZ qb M) (jmV (As := []) (rest := []) ⟨hx, hb, hml, hown, hts⟩ (c_X7_clear l D cyI cyZ cyT qa H.size N X (r, X1) e1) (cwV 0 hts gL_law_X7_clear rfl rfl rfl (by decide +kernel) ⟨Nat.le_of_ble_eq_true rfl, Nat.le_of_ble_eq_true rfl⟩) hK (hP.sub (ws' := wX cyI cyZ cyT qa X) [0, 1, 2, 3, 4, 5, 6, 7, 8, 9, 10, 11, 12, 13, 14, 15, 16, 17, 18, 19, 20, 21, 22, 23, 24, 25, 26, 27, 28, 29, 30, 31, 32, 33, 34, 35, 36, 37, 38, 39, 40, 41, 42, 43, 44, 45, 46, 47, 48, 49, 50, 51, 52, 53, 54] rfl) (hD.sub (ws' := wX cyI cyZ cyT qa X) [0, 1, 2, 3, 4, 5, 6, 7, 8, 9, 10, 11, 12, 13, 14, 15, 16, 17, 18, 19, 20, 21, 22, 23, 24, 25, 26, 27, 28, 29, 30, 31, 32, 33, 34, 35, 36, 37, 38, 39, 40, 41, 42, 43, 44, 45, 46, 47, 48, 49, 50, 51, 52, 53, 54] (by decide) rfl) rfl 7 0 rfl rfl rfl hl.1 (Nat.le_of_ble_eq_true rfl) dL_law_445 ⟨Nat.le_of_ble_eq_true rfl, Nat.le_of_ble_eq_true rfl⟩) hP hD hS hA [0, 1, 2, 3, 4, 5, 6, 7, 8, 9, 10, 11, 12, 13, 14, 15, 16, 17, 18, 19, 20, 21, 22, 23, 24, 25, 26, 27, 28, 29, 30, 31, 32, 33, 34, 35, 36, 37, 38, 39, 40, 41, 42, 43, 44, 45, 46, 47, 48, 49, 50, 51, 52, 53, 54] [55, 56, 57, 58, 59, 60, 61, 62, 63, 64, 65, 66, 67, 68] [14, 15, 16, 17, 18, 19, 20, 21, 22, 23, 24, 25, 26, 27, 28, 29, 30, 31, 32, 33, 34, 35, 36, 37, 38, 39, 40, 41, 42, 43, 44, 45, 46, 47, 48, 49, 50, 51, 52, 53, 54, 55, 56, 57, 58, 59, 60, 61, 62, 63, 64, 65, 66, 67, 68, 0, 1, 2, 3, 4, 5, 6, 7, 8, 9, 10, 11, 12, 13] rfl rfl (by decide) (by decide) rfl (by decide) (fun H locs hP hD hS => ?_)
  refine lv_aload_n hx hb dL_law_448 rfl (lv_at hl 2 rfl) ?_
  refine jgi (w1 := fun u : Mo => wM cyI cyZ qb u) (wn := wX cyI cyZ cyT qa X1 ++ wM cyI cyZ qb M1) (jmV (As := []) (rest := [.int (r, X1).1]) ⟨hx, hb, hml, hown, hts⟩ (c_X8_clear l D cyI cyZ cyT qb H.size N M (r, M1) e2) (cwV 0 hts gL_law_X8_clear rfl rfl rfl (by decide +kernel) ⟨Nat.le_of_ble_eq_true rfl, Nat.le_of_ble_eq_true rfl⟩) hK (hP.sub (ws' := wM cyI cyZ qb M) [55, 56, 57, 58, 59, 60, 61, 62, 63, 64, 65, 66, 67, 68] rfl) (hD.sub (ws' := wM cyI cyZ qb M) [55, 56, 57, 58, 59, 60, 61, 62, 63, 64, 65, 66, 67, 68] (by decide) rfl) rfl 8 0 rfl rfl rfl hl.1 (Nat.le_of_ble_eq_true rfl) dL_law_449 ⟨Nat.le_of_ble_eq_true rfl, Nat.le_of_ble_eq_true rfl⟩) hP hD hS hA [55, 56, 57, 58, 59, 60, 61, 62, 63, 64, 65, 66, 67, 68] [0, 1, 2, 3, 4, 5, 6, 7, 8, 9, 10, 11, 12, 13, 14, 15, 16, 17, 18, 19, 20, 21, 22, 23, 24, 25, 26, 27, 28, 29, 30, 31, 32, 33, 34, 35, 36, 37, 38, 39, 40, 41, 42, 43, 44, 45, 46, 47, 48, 49, 50, 51, 52, 53, 54] [0, 1, 2, 3, 4, 5, 6, 7, 8, 9, 10, 11, 12, 13, 14, 15, 16, 17, 18, 19, 20, 21, 22, 23, 24, 25, 26, 27, 28, 29, 30, 31, 32, 33, 34, 35, 36, 37, 38, 39, 40, 41, 42, 43, 44, 45, 46, 47, 48, 49, 50, 51, 52, 53, 54, 55, 56, 57, 58, 59, 60, 61, 62, 63, 64, 65, 66, 67, 68] rfl rfl (by decide) (by decide) rfl (by decide) (fun H locs hP hD hS => ?_)
  refine lv_icmp_eq (tgt := 1098) hx hb dL_law_452 (by decide) (fun _ => ?_) (fun c => absurd rfl c)
  exact hk X1 M1 hRel1 H locs hP hD hS ls hl
set_option maxHeartbeats 4000000 in
set_option maxRecDepth 100000 in
theorem law_night {p : Program} {l : Launch} {e : Env} {s : State} {m : MethodId} {below : List Frame} {meth : Method} {c : Code} {D : va_G} {cyI cyZ cyT : ClassId} {adK adV qa qb : Nat → Nat} {b L : Nat} {xs : Nat → Int32} {N : Nat} {Rel : BX → Mo → Prop} (C0 : lw_At p s m meth c b L xs) (hK : jK D cyI cyZ cyT s) (hZ : jStr adK adV (fun q : Nat => s.heap.size ≤ q) s s.heap) (x3 : Int32) (hin : ∀ k : Int32, k ≤ 5 → ¬ k < 0 → vp_in (x3 + k) L) (hR : ∀ (a1 : Int32) (X : BX) (M : Mo), Rel X M → ∃ (r : Int32) (X1 : BX) (M1 : Mo), f_X7_night N a1 X = some (r, X1) ∧ f_X8_night N a1 M = some (r, M1) ∧ Rel X1 M1) (hk : ∀ (X : BX) (M : Mo), Rel X M → ∀ (H : Heap) (locs : List Loc), va_P D vwCl (wX cyI cyZ cyT qa X ++ wM cyI cyZ qb M) H → va_D (fun q : Nat => s.heap.size ≤ q) (wX cyI cyZ cyT qa X ++ wM cyI cyZ qb M) → va_S (fun q : Nat => s.heap.size ≤ q) s.heap H locs → ∀ (ls : Array Slot), lv_has ls 4 [(0, .ref b), (1, .ref (qa 0)), (2, .ref (qb 0)), (3, .int x3)] → W p l e room_1 s m #[Value.ref b] below meth c H locs 69 821 (lw_Z below #[Value.ref b] s) (F0 m 1098 ls [])) (X : BX) (M : Mo) (hRel : Rel X M) (H : Heap) (locs : List Loc) : va_P D vwCl (wX cyI cyZ cyT qa X ++ wM cyI cyZ qb M) H → va_D (fun q : Nat => s.heap.size ≤ q) (wX cyI cyZ cyT qa X ++ wM cyI cyZ qb M) → va_S (fun q : Nat => s.heap.size ≤ q) s.heap H locs → ∀ (ls : Array Slot), lv_has ls 4 [(0, .ref b), (1, .ref (qa 0)), (2, .ref (qb 0)), (3, .int x3)] → W p l e room_1 s m #[Value.ref b] below meth c H locs 69 821 (lw_Z below #[Value.ref b] s) (F0 m 457 ls []) := by
  obtain ⟨hx, hb, hr, hml, hown, hts, hX, hbl, hlocks, hgv⟩ := C0
  have hts := fun w h => hts w (wsL_law_in w h)
  have hA : ∀ q : Nat, s.heap.size ≤ q → (fun q : Nat => s.heap.size ≤ q) q := fun _ h => h
  have hbA : ¬ (fun q : Nat => s.heap.size ≤ q) b := Nat.not_le.mpr hbl
  intro hP hD hS ls hl
  obtain ⟨r, X1, M1, e1, e2, hRel1⟩ := hR (xs (x3 + 1).toNatClampNeg) X M hRel
  refine lv_aload_n hx hb dL_law_457 rfl (lv_at hl 1 rfl) ?_
  refine lv_aload_n hx hb dL_law_458 rfl (lv_at hl 0 rfl) ?_
  refine lv_iload_n hx hb dL_law_459 rfl (lv_at hl 3 rfl) ?_
  refine lv_iconst (v := 1) hx hb dL_law_460 (by decide) ?_
  refine lv_iadd hx hb dL_law_461 ?_
  refine va_sld hx hb hX hbl hbA hS (hin 1 (by decide) (by decide)) dL_law_462 ?_
  refine jgi (w1 := fun u : BX => wX cyI cyZ cyT qa u) (wn := wX cyI cyZ cyT qa X1 ++ wM cyI cyZ qb M) (jmV (As := [.int (xs (x3 + 1).toNatClampNeg)]) (rest := []) ⟨hx, hb, hml, hown, hts⟩ (c_X7_night l D cyI cyZ cyT qa H.size N (xs (x3 + 1).toNatClampNeg) X (r, X1) e1) (cwV 1 hts gL_law_X7_night rfl rfl rfl (by decide +kernel) ⟨Nat.le_of_ble_eq_true rfl, Nat.le_of_ble_eq_true rfl⟩) hK (hP.sub (ws' := wX cyI cyZ cyT qa X) [0, 1, 2, 3, 4, 5, 6, 7, 8, 9, 10, 11, 12, 13, 14, 15, 16, 17, 18, 19, 20, 21, 22, 23, 24, 25, 26, 27, 28, 29, 30, 31, 32, 33, 34, 35, 36, 37, 38, 39, 40, 41, 42, 43, 44, 45, 46, 47, 48, 49, 50, 51, 52, 53, 54] rfl) (hD.sub (ws' := wX cyI cyZ cyT qa X) [0, 1, 2, 3, 4, 5, 6, 7, 8, 9, 10, 11, 12, 13, 14, 15, 16, 17, 18, 19, 20, 21, 22, 23, 24, 25, 26, 27, 28, 29, 30, 31, 32, 33, 34, 35, 36, 37, 38, 39, 40, 41, 42, 43, 44, 45, 46, 47, 48, 49, 50, 51, 52, 53, 54] (by decide) rfl) rfl 7 0 rfl rfl rfl hl.1 (Nat.le_of_ble_eq_true rfl) dL_law_463 ⟨Nat.le_of_ble_eq_true rfl, Nat.le_of_ble_eq_true rfl⟩) hP hD hS hA [0, 1, 2, 3, 4, 5, 6, 7, 8, 9, 10, 11, 12, 13, 14, 15, 16, 17, 18, 19, 20, 21, 22, 23, 24, 25, 26, 27, 28, 29, 30, 31, 32, 33, 34, 35, 36, 37, 38, 39, 40, 41, 42, 43, 44, 45, 46, 47, 48, 49, 50, 51, 52, 53, 54] [55, 56, 57, 58, 59, 60, 61, 62, 63, 64, 65, 66, 67, 68] [14, 15, 16, 17, 18, 19, 20, 21, 22, 23, 24, 25, 26, 27, 28, 29, 30, 31, 32, 33, 34, 35, 36, 37, 38, 39, 40, 41, 42, 43, 44, 45, 46, 47, 48, 49, 50, 51, 52, 53, 54, 55, 56, 57, 58, 59, 60, 61, 62, 63, 64, 65, 66, 67, 68, 0, 1, 2, 3, 4, 5, 6, 7, 8, 9, 10, 11, 12, 13] rfl rfl (by decide) (by decide) rfl (by decide) (fun H locs hP hD hS => ?_)
  refine lv_aload_n hx hb dL_law_466 rfl (lv_at hl 2 rfl) ?_
  refine lv_aload_n hx hb dL_law_467 rfl (lv_at hl 0 rfl) ?_
  refine lv_iload_n hx hb dL_law_468 rfl (lv_at hl 3 rfl) ?_
  refine lv_iconst (v := 1) hx hb dL_law_469 (by decide) ?_
  refine lv_iadd hx hb dL_law_470 ?_
  refine va_sld hx hb hX hbl hbA hS (hin 1 (by decide) (by decide)) dL_law_471 ?_
  refine jgi (w1 := fun u : Mo => wM cyI cyZ qb u) (wn := wX cyI cyZ cyT qa X1 ++ wM cyI cyZ qb M1) (jmV (As := [.int (xs (x3 + 1).toNatClampNeg)]) (rest := [.int (r, X1).1]) ⟨hx, hb, hml, hown, hts⟩ (c_X8_night l D cyI cyZ cyT qb H.size N (xs (x3 + 1).toNatClampNeg) M (r, M1) e2) (cwV 1 hts gL_law_X8_night rfl rfl rfl (by decide +kernel) ⟨Nat.le_of_ble_eq_true rfl, Nat.le_of_ble_eq_true rfl⟩) hK (hP.sub (ws' := wM cyI cyZ qb M) [55, 56, 57, 58, 59, 60, 61, 62, 63, 64, 65, 66, 67, 68] rfl) (hD.sub (ws' := wM cyI cyZ qb M) [55, 56, 57, 58, 59, 60, 61, 62, 63, 64, 65, 66, 67, 68] (by decide) rfl) rfl 8 0 rfl rfl rfl hl.1 (Nat.le_of_ble_eq_true rfl) dL_law_472 ⟨Nat.le_of_ble_eq_true rfl, Nat.le_of_ble_eq_true rfl⟩) hP hD hS hA [55, 56, 57, 58, 59, 60, 61, 62, 63, 64, 65, 66, 67, 68] [0, 1, 2, 3, 4, 5, 6, 7, 8, 9, 10, 11, 12, 13, 14, 15, 16, 17, 18, 19, 20, 21, 22, 23, 24, 25, 26, 27, 28, 29, 30, 31, 32, 33, 34, 35, 36, 37, 38, 39, 40, 41, 42, 43, 44, 45, 46, 47, 48, 49, 50, 51, 52, 53, 54] [0, 1, 2, 3, 4, 5, 6, 7, 8, 9, 10, 11, 12, 13, 14, 15, 16, 17, 18, 19, 20, 21, 22, 23, 24, 25, 26, 27, 28, 29, 30, 31, 32, 33, 34, 35, 36, 37, 38, 39, 40, 41, 42, 43, 44, 45, 46, 47, 48, 49, 50, 51, 52, 53, 54, 55, 56, 57, 58, 59, 60, 61, 62, 63, 64, 65, 66, 67, 68] rfl rfl (by decide) (by decide) rfl (by decide) (fun H locs hP hD hS => ?_)
  refine lv_icmp_eq (tgt := 1098) hx hb dL_law_475 (by decide) (fun _ => ?_) (fun c => absurd rfl c)
  exact hk X1 M1 hRel1 H locs hP hD hS ls hl
set_option maxHeartbeats 4000000 in
set_option maxRecDepth 100000 in
theorem law_undo {p : Program} {l : Launch} {e : Env} {s : State} {m : MethodId} {below : List Frame} {meth : Method} {c : Code} {D : va_G} {cyI cyZ cyT : ClassId} {adK adV qa qb : Nat → Nat} {b L : Nat} {xs : Nat → Int32} {N : Nat} {Rel : BX → Mo → Prop} (C0 : lw_At p s m meth c b L xs) (hK : jK D cyI cyZ cyT s) (hZ : jStr adK adV (fun q : Nat => s.heap.size ≤ q) s s.heap) (x3 : Int32) (hin : ∀ k : Int32, k ≤ 5 → ¬ k < 0 → vp_in (x3 + k) L) (hR : ∀ (X : BX) (M : Mo), Rel X M → ∃ (r : Int32) (X1 : BX) (M1 : Mo), f_X7_undo N X = some (r, X1) ∧ f_X8_undo N M = some (r, M1) ∧ Rel X1 M1) (hk : ∀ (X : BX) (M : Mo), Rel X M → ∀ (H : Heap) (locs : List Loc), va_P D vwCl (wX cyI cyZ cyT qa X ++ wM cyI cyZ qb M) H → va_D (fun q : Nat => s.heap.size ≤ q) (wX cyI cyZ cyT qa X ++ wM cyI cyZ qb M) → va_S (fun q : Nat => s.heap.size ≤ q) s.heap H locs → ∀ (ls : Array Slot), lv_has ls 4 [(0, .ref b), (1, .ref (qa 0)), (2, .ref (qb 0)), (3, .int x3)] → W p l e room_1 s m #[Value.ref b] below meth c H locs 69 821 (lw_Z below #[Value.ref b] s) (F0 m 1098 ls [])) (X : BX) (M : Mo) (hRel : Rel X M) (H : Heap) (locs : List Loc) : va_P D vwCl (wX cyI cyZ cyT qa X ++ wM cyI cyZ qb M) H → va_D (fun q : Nat => s.heap.size ≤ q) (wX cyI cyZ cyT qa X ++ wM cyI cyZ qb M) → va_S (fun q : Nat => s.heap.size ≤ q) s.heap H locs → ∀ (ls : Array Slot), lv_has ls 4 [(0, .ref b), (1, .ref (qa 0)), (2, .ref (qb 0)), (3, .int x3)] → W p l e room_1 s m #[Value.ref b] below meth c H locs 69 821 (lw_Z below #[Value.ref b] s) (F0 m 480 ls []) := by
  obtain ⟨hx, hb, hr, hml, hown, hts, hX, hbl, hlocks, hgv⟩ := C0
  have hts := fun w h => hts w (wsL_law_in w h)
  have hA : ∀ q : Nat, s.heap.size ≤ q → (fun q : Nat => s.heap.size ≤ q) q := fun _ h => h
  have hbA : ¬ (fun q : Nat => s.heap.size ≤ q) b := Nat.not_le.mpr hbl
  intro hP hD hS ls hl
  obtain ⟨r, X1, M1, e1, e2, hRel1⟩ := hR  X M hRel
  refine lv_aload_n hx hb dL_law_480 rfl (lv_at hl 1 rfl) ?_
  refine jgi (w1 := fun u : BX => wX cyI cyZ cyT qa u) (wn := wX cyI cyZ cyT qa X1 ++ wM cyI cyZ qb M) (jmV (As := []) (rest := []) ⟨hx, hb, hml, hown, hts⟩ (c_X7_undo l D cyI cyZ cyT qa H.size N X (r, X1) e1) (cwV 0 hts gL_law_X7_undo rfl rfl rfl (by decide +kernel) ⟨Nat.le_of_ble_eq_true rfl, Nat.le_of_ble_eq_true rfl⟩) hK (hP.sub (ws' := wX cyI cyZ cyT qa X) [0, 1, 2, 3, 4, 5, 6, 7, 8, 9, 10, 11, 12, 13, 14, 15, 16, 17, 18, 19, 20, 21, 22, 23, 24, 25, 26, 27, 28, 29, 30, 31, 32, 33, 34, 35, 36, 37, 38, 39, 40, 41, 42, 43, 44, 45, 46, 47, 48, 49, 50, 51, 52, 53, 54] rfl) (hD.sub (ws' := wX cyI cyZ cyT qa X) [0, 1, 2, 3, 4, 5, 6, 7, 8, 9, 10, 11, 12, 13, 14, 15, 16, 17, 18, 19, 20, 21, 22, 23, 24, 25, 26, 27, 28, 29, 30, 31, 32, 33, 34, 35, 36, 37, 38, 39, 40, 41, 42, 43, 44, 45, 46, 47, 48, 49, 50, 51, 52, 53, 54] (by decide) rfl) rfl 7 0 rfl rfl rfl hl.1 (Nat.le_of_ble_eq_true rfl) dL_law_481 ⟨Nat.le_of_ble_eq_true rfl, Nat.le_of_ble_eq_true rfl⟩) hP hD hS hA [0, 1, 2, 3, 4, 5, 6, 7, 8, 9, 10, 11, 12, 13, 14, 15, 16, 17, 18, 19, 20, 21, 22, 23, 24, 25, 26, 27, 28, 29, 30, 31, 32, 33, 34, 35, 36, 37, 38, 39, 40, 41, 42, 43, 44, 45, 46, 47, 48, 49, 50, 51, 52, 53, 54] [55, 56, 57, 58, 59, 60, 61, 62, 63, 64, 65, 66, 67, 68] [14, 15, 16, 17, 18, 19, 20, 21, 22, 23, 24, 25, 26, 27, 28, 29, 30, 31, 32, 33, 34, 35, 36, 37, 38, 39, 40, 41, 42, 43, 44, 45, 46, 47, 48, 49, 50, 51, 52, 53, 54, 55, 56, 57, 58, 59, 60, 61, 62, 63, 64, 65, 66, 67, 68, 0, 1, 2, 3, 4, 5, 6, 7, 8, 9, 10, 11, 12, 13] rfl rfl (by decide) (by decide) rfl (by decide) (fun H locs hP hD hS => ?_)
  refine lv_aload_n hx hb dL_law_484 rfl (lv_at hl 2 rfl) ?_
  refine jgi (w1 := fun u : Mo => wM cyI cyZ qb u) (wn := wX cyI cyZ cyT qa X1 ++ wM cyI cyZ qb M1) (jmV (As := []) (rest := [.int (r, X1).1]) ⟨hx, hb, hml, hown, hts⟩ (c_X8_undo l D cyI cyZ cyT qb H.size N M (r, M1) e2) (cwV 0 hts gL_law_X8_undo rfl rfl rfl (by decide +kernel) ⟨Nat.le_of_ble_eq_true rfl, Nat.le_of_ble_eq_true rfl⟩) hK (hP.sub (ws' := wM cyI cyZ qb M) [55, 56, 57, 58, 59, 60, 61, 62, 63, 64, 65, 66, 67, 68] rfl) (hD.sub (ws' := wM cyI cyZ qb M) [55, 56, 57, 58, 59, 60, 61, 62, 63, 64, 65, 66, 67, 68] (by decide) rfl) rfl 8 0 rfl rfl rfl hl.1 (Nat.le_of_ble_eq_true rfl) dL_law_485 ⟨Nat.le_of_ble_eq_true rfl, Nat.le_of_ble_eq_true rfl⟩) hP hD hS hA [55, 56, 57, 58, 59, 60, 61, 62, 63, 64, 65, 66, 67, 68] [0, 1, 2, 3, 4, 5, 6, 7, 8, 9, 10, 11, 12, 13, 14, 15, 16, 17, 18, 19, 20, 21, 22, 23, 24, 25, 26, 27, 28, 29, 30, 31, 32, 33, 34, 35, 36, 37, 38, 39, 40, 41, 42, 43, 44, 45, 46, 47, 48, 49, 50, 51, 52, 53, 54] [0, 1, 2, 3, 4, 5, 6, 7, 8, 9, 10, 11, 12, 13, 14, 15, 16, 17, 18, 19, 20, 21, 22, 23, 24, 25, 26, 27, 28, 29, 30, 31, 32, 33, 34, 35, 36, 37, 38, 39, 40, 41, 42, 43, 44, 45, 46, 47, 48, 49, 50, 51, 52, 53, 54, 55, 56, 57, 58, 59, 60, 61, 62, 63, 64, 65, 66, 67, 68] rfl rfl (by decide) (by decide) rfl (by decide) (fun H locs hP hD hS => ?_)
  refine lv_icmp_eq (tgt := 1098) hx hb dL_law_488 (by decide) (fun _ => ?_) (fun c => absurd rfl c)
  exact hk X1 M1 hRel1 H locs hP hD hS ls hl
set_option maxHeartbeats 4000000 in
set_option maxRecDepth 100000 in
theorem law_keep {p : Program} {l : Launch} {e : Env} {s : State} {m : MethodId} {below : List Frame} {meth : Method} {c : Code} {D : va_G} {cyI cyZ cyT : ClassId} {adK adV qa qb : Nat → Nat} {b L : Nat} {xs : Nat → Int32} {N : Nat} {Rel : BX → Mo → Prop} (C0 : lw_At p s m meth c b L xs) (hK : jK D cyI cyZ cyT s) (hZ : jStr adK adV (fun q : Nat => s.heap.size ≤ q) s s.heap) (x3 : Int32) (hin : ∀ k : Int32, k ≤ 5 → ¬ k < 0 → vp_in (x3 + k) L) (hR : ∀ (a1 : Int32) (X : BX) (M : Mo), Rel X M → ∃ (r : Int32) (X1 : BX) (M1 : Mo), f_X7_keep N a1 X = some (r, X1) ∧ f_X8_keep N a1 M = some (r, M1) ∧ Rel X1 M1) (hk : ∀ (X : BX) (M : Mo), Rel X M → ∀ (H : Heap) (locs : List Loc), va_P D vwCl (wX cyI cyZ cyT qa X ++ wM cyI cyZ qb M) H → va_D (fun q : Nat => s.heap.size ≤ q) (wX cyI cyZ cyT qa X ++ wM cyI cyZ qb M) → va_S (fun q : Nat => s.heap.size ≤ q) s.heap H locs → ∀ (ls : Array Slot), lv_has ls 4 [(0, .ref b), (1, .ref (qa 0)), (2, .ref (qb 0)), (3, .int x3)] → W p l e room_1 s m #[Value.ref b] below meth c H locs 69 821 (lw_Z below #[Value.ref b] s) (F0 m 1098 ls [])) (X : BX) (M : Mo) (hRel : Rel X M) (H : Heap) (locs : List Loc) : va_P D vwCl (wX cyI cyZ cyT qa X ++ wM cyI cyZ qb M) H → va_D (fun q : Nat => s.heap.size ≤ q) (wX cyI cyZ cyT qa X ++ wM cyI cyZ qb M) → va_S (fun q : Nat => s.heap.size ≤ q) s.heap H locs → ∀ (ls : Array Slot), lv_has ls 4 [(0, .ref b), (1, .ref (qa 0)), (2, .ref (qb 0)), (3, .int x3)] → W p l e room_1 s m #[Value.ref b] below meth c H locs 69 821 (lw_Z below #[Value.ref b] s) (F0 m 493 ls []) := by
  obtain ⟨hx, hb, hr, hml, hown, hts, hX, hbl, hlocks, hgv⟩ := C0
  have hts := fun w h => hts w (wsL_law_in w h)
  have hA : ∀ q : Nat, s.heap.size ≤ q → (fun q : Nat => s.heap.size ≤ q) q := fun _ h => h
  have hbA : ¬ (fun q : Nat => s.heap.size ≤ q) b := Nat.not_le.mpr hbl
  intro hP hD hS ls hl
  obtain ⟨r, X1, M1, e1, e2, hRel1⟩ := hR (xs (x3 + 1).toNatClampNeg) X M hRel
  refine lv_aload_n hx hb dL_law_493 rfl (lv_at hl 1 rfl) ?_
  refine lv_aload_n hx hb dL_law_494 rfl (lv_at hl 0 rfl) ?_
  refine lv_iload_n hx hb dL_law_495 rfl (lv_at hl 3 rfl) ?_
  refine lv_iconst (v := 1) hx hb dL_law_496 (by decide) ?_
  refine lv_iadd hx hb dL_law_497 ?_
  refine va_sld hx hb hX hbl hbA hS (hin 1 (by decide) (by decide)) dL_law_498 ?_
  refine jgi (w1 := fun u : BX => wX cyI cyZ cyT qa u) (wn := wX cyI cyZ cyT qa X1 ++ wM cyI cyZ qb M) (jmV (As := [.int (xs (x3 + 1).toNatClampNeg)]) (rest := []) ⟨hx, hb, hml, hown, hts⟩ (c_X7_keep l D cyI cyZ cyT qa H.size N (xs (x3 + 1).toNatClampNeg) X (r, X1) e1) (cwV 1 hts gL_law_X7_keep rfl rfl rfl (by decide +kernel) ⟨Nat.le_of_ble_eq_true rfl, Nat.le_of_ble_eq_true rfl⟩) hK (hP.sub (ws' := wX cyI cyZ cyT qa X) [0, 1, 2, 3, 4, 5, 6, 7, 8, 9, 10, 11, 12, 13, 14, 15, 16, 17, 18, 19, 20, 21, 22, 23, 24, 25, 26, 27, 28, 29, 30, 31, 32, 33, 34, 35, 36, 37, 38, 39, 40, 41, 42, 43, 44, 45, 46, 47, 48, 49, 50, 51, 52, 53, 54] rfl) (hD.sub (ws' := wX cyI cyZ cyT qa X) [0, 1, 2, 3, 4, 5, 6, 7, 8, 9, 10, 11, 12, 13, 14, 15, 16, 17, 18, 19, 20, 21, 22, 23, 24, 25, 26, 27, 28, 29, 30, 31, 32, 33, 34, 35, 36, 37, 38, 39, 40, 41, 42, 43, 44, 45, 46, 47, 48, 49, 50, 51, 52, 53, 54] (by decide) rfl) rfl 7 0 rfl rfl rfl hl.1 (Nat.le_of_ble_eq_true rfl) dL_law_499 ⟨Nat.le_of_ble_eq_true rfl, Nat.le_of_ble_eq_true rfl⟩) hP hD hS hA [0, 1, 2, 3, 4, 5, 6, 7, 8, 9, 10, 11, 12, 13, 14, 15, 16, 17, 18, 19, 20, 21, 22, 23, 24, 25, 26, 27, 28, 29, 30, 31, 32, 33, 34, 35, 36, 37, 38, 39, 40, 41, 42, 43, 44, 45, 46, 47, 48, 49, 50, 51, 52, 53, 54] [55, 56, 57, 58, 59, 60, 61, 62, 63, 64, 65, 66, 67, 68] [14, 15, 16, 17, 18, 19, 20, 21, 22, 23, 24, 25, 26, 27, 28, 29, 30, 31, 32, 33, 34, 35, 36, 37, 38, 39, 40, 41, 42, 43, 44, 45, 46, 47, 48, 49, 50, 51, 52, 53, 54, 55, 56, 57, 58, 59, 60, 61, 62, 63, 64, 65, 66, 67, 68, 0, 1, 2, 3, 4, 5, 6, 7, 8, 9, 10, 11, 12, 13] rfl rfl (by decide) (by decide) rfl (by decide) (fun H locs hP hD hS => ?_)
  refine lv_aload_n hx hb dL_law_502 rfl (lv_at hl 2 rfl) ?_
  refine lv_aload_n hx hb dL_law_503 rfl (lv_at hl 0 rfl) ?_
  refine lv_iload_n hx hb dL_law_504 rfl (lv_at hl 3 rfl) ?_
  refine lv_iconst (v := 1) hx hb dL_law_505 (by decide) ?_
  refine lv_iadd hx hb dL_law_506 ?_
  refine va_sld hx hb hX hbl hbA hS (hin 1 (by decide) (by decide)) dL_law_507 ?_
  refine jgi (w1 := fun u : Mo => wM cyI cyZ qb u) (wn := wX cyI cyZ cyT qa X1 ++ wM cyI cyZ qb M1) (jmV (As := [.int (xs (x3 + 1).toNatClampNeg)]) (rest := [.int (r, X1).1]) ⟨hx, hb, hml, hown, hts⟩ (c_X8_keep l D cyI cyZ cyT qb H.size N (xs (x3 + 1).toNatClampNeg) M (r, M1) e2) (cwV 1 hts gL_law_X8_keep rfl rfl rfl (by decide +kernel) ⟨Nat.le_of_ble_eq_true rfl, Nat.le_of_ble_eq_true rfl⟩) hK (hP.sub (ws' := wM cyI cyZ qb M) [55, 56, 57, 58, 59, 60, 61, 62, 63, 64, 65, 66, 67, 68] rfl) (hD.sub (ws' := wM cyI cyZ qb M) [55, 56, 57, 58, 59, 60, 61, 62, 63, 64, 65, 66, 67, 68] (by decide) rfl) rfl 8 0 rfl rfl rfl hl.1 (Nat.le_of_ble_eq_true rfl) dL_law_508 ⟨Nat.le_of_ble_eq_true rfl, Nat.le_of_ble_eq_true rfl⟩) hP hD hS hA [55, 56, 57, 58, 59, 60, 61, 62, 63, 64, 65, 66, 67, 68] [0, 1, 2, 3, 4, 5, 6, 7, 8, 9, 10, 11, 12, 13, 14, 15, 16, 17, 18, 19, 20, 21, 22, 23, 24, 25, 26, 27, 28, 29, 30, 31, 32, 33, 34, 35, 36, 37, 38, 39, 40, 41, 42, 43, 44, 45, 46, 47, 48, 49, 50, 51, 52, 53, 54] [0, 1, 2, 3, 4, 5, 6, 7, 8, 9, 10, 11, 12, 13, 14, 15, 16, 17, 18, 19, 20, 21, 22, 23, 24, 25, 26, 27, 28, 29, 30, 31, 32, 33, 34, 35, 36, 37, 38, 39, 40, 41, 42, 43, 44, 45, 46, 47, 48, 49, 50, 51, 52, 53, 54, 55, 56, 57, 58, 59, 60, 61, 62, 63, 64, 65, 66, 67, 68] rfl rfl (by decide) (by decide) rfl (by decide) (fun H locs hP hD hS => ?_)
  refine lv_icmp_eq (tgt := 1098) hx hb dL_law_511 (by decide) (fun _ => ?_) (fun c => absurd rfl c)
  exact hk X1 M1 hRel1 H locs hP hD hS ls hl
set_option maxHeartbeats 4000000 in
set_option maxRecDepth 100000 in
theorem law_back {p : Program} {l : Launch} {e : Env} {s : State} {m : MethodId} {below : List Frame} {meth : Method} {c : Code} {D : va_G} {cyI cyZ cyT : ClassId} {adK adV qa qb : Nat → Nat} {b L : Nat} {xs : Nat → Int32} {N : Nat} {Rel : BX → Mo → Prop} (C0 : lw_At p s m meth c b L xs) (hK : jK D cyI cyZ cyT s) (hZ : jStr adK adV (fun q : Nat => s.heap.size ≤ q) s s.heap) (x3 : Int32) (hin : ∀ k : Int32, k ≤ 5 → ¬ k < 0 → vp_in (x3 + k) L) (hR : ∀ (a1 : Int32) (X : BX) (M : Mo), Rel X M → ∃ (r : Int32) (X1 : BX) (M1 : Mo), f_X7_back N a1 X = some (r, X1) ∧ f_X8_back N a1 M = some (r, M1) ∧ Rel X1 M1) (hk : ∀ (X : BX) (M : Mo), Rel X M → ∀ (H : Heap) (locs : List Loc), va_P D vwCl (wX cyI cyZ cyT qa X ++ wM cyI cyZ qb M) H → va_D (fun q : Nat => s.heap.size ≤ q) (wX cyI cyZ cyT qa X ++ wM cyI cyZ qb M) → va_S (fun q : Nat => s.heap.size ≤ q) s.heap H locs → ∀ (ls : Array Slot), lv_has ls 4 [(0, .ref b), (1, .ref (qa 0)), (2, .ref (qb 0)), (3, .int x3)] → W p l e room_1 s m #[Value.ref b] below meth c H locs 69 821 (lw_Z below #[Value.ref b] s) (F0 m 1098 ls [])) (X : BX) (M : Mo) (hRel : Rel X M) (H : Heap) (locs : List Loc) : va_P D vwCl (wX cyI cyZ cyT qa X ++ wM cyI cyZ qb M) H → va_D (fun q : Nat => s.heap.size ≤ q) (wX cyI cyZ cyT qa X ++ wM cyI cyZ qb M) → va_S (fun q : Nat => s.heap.size ≤ q) s.heap H locs → ∀ (ls : Array Slot), lv_has ls 4 [(0, .ref b), (1, .ref (qa 0)), (2, .ref (qb 0)), (3, .int x3)] → W p l e room_1 s m #[Value.ref b] below meth c H locs 69 821 (lw_Z below #[Value.ref b] s) (F0 m 516 ls []) := by
  obtain ⟨hx, hb, hr, hml, hown, hts, hX, hbl, hlocks, hgv⟩ := C0
  have hts := fun w h => hts w (wsL_law_in w h)
  have hA : ∀ q : Nat, s.heap.size ≤ q → (fun q : Nat => s.heap.size ≤ q) q := fun _ h => h
  have hbA : ¬ (fun q : Nat => s.heap.size ≤ q) b := Nat.not_le.mpr hbl
  intro hP hD hS ls hl
  obtain ⟨r, X1, M1, e1, e2, hRel1⟩ := hR (xs (x3 + 1).toNatClampNeg) X M hRel
  refine lv_aload_n hx hb dL_law_516 rfl (lv_at hl 1 rfl) ?_
  refine lv_aload_n hx hb dL_law_517 rfl (lv_at hl 0 rfl) ?_
  refine lv_iload_n hx hb dL_law_518 rfl (lv_at hl 3 rfl) ?_
  refine lv_iconst (v := 1) hx hb dL_law_519 (by decide) ?_
  refine lv_iadd hx hb dL_law_520 ?_
  refine va_sld hx hb hX hbl hbA hS (hin 1 (by decide) (by decide)) dL_law_521 ?_
  refine jgi (w1 := fun u : BX => wX cyI cyZ cyT qa u) (wn := wX cyI cyZ cyT qa X1 ++ wM cyI cyZ qb M) (jmV (As := [.int (xs (x3 + 1).toNatClampNeg)]) (rest := []) ⟨hx, hb, hml, hown, hts⟩ (c_X7_back l D cyI cyZ cyT qa H.size N (xs (x3 + 1).toNatClampNeg) X (r, X1) e1) (cwV 1 hts gL_law_X7_back rfl rfl rfl (by decide +kernel) ⟨Nat.le_of_ble_eq_true rfl, Nat.le_of_ble_eq_true rfl⟩) hK (hP.sub (ws' := wX cyI cyZ cyT qa X) [0, 1, 2, 3, 4, 5, 6, 7, 8, 9, 10, 11, 12, 13, 14, 15, 16, 17, 18, 19, 20, 21, 22, 23, 24, 25, 26, 27, 28, 29, 30, 31, 32, 33, 34, 35, 36, 37, 38, 39, 40, 41, 42, 43, 44, 45, 46, 47, 48, 49, 50, 51, 52, 53, 54] rfl) (hD.sub (ws' := wX cyI cyZ cyT qa X) [0, 1, 2, 3, 4, 5, 6, 7, 8, 9, 10, 11, 12, 13, 14, 15, 16, 17, 18, 19, 20, 21, 22, 23, 24, 25, 26, 27, 28, 29, 30, 31, 32, 33, 34, 35, 36, 37, 38, 39, 40, 41, 42, 43, 44, 45, 46, 47, 48, 49, 50, 51, 52, 53, 54] (by decide) rfl) rfl 7 0 rfl rfl rfl hl.1 (Nat.le_of_ble_eq_true rfl) dL_law_522 ⟨Nat.le_of_ble_eq_true rfl, Nat.le_of_ble_eq_true rfl⟩) hP hD hS hA [0, 1, 2, 3, 4, 5, 6, 7, 8, 9, 10, 11, 12, 13, 14, 15, 16, 17, 18, 19, 20, 21, 22, 23, 24, 25, 26, 27, 28, 29, 30, 31, 32, 33, 34, 35, 36, 37, 38, 39, 40, 41, 42, 43, 44, 45, 46, 47, 48, 49, 50, 51, 52, 53, 54] [55, 56, 57, 58, 59, 60, 61, 62, 63, 64, 65, 66, 67, 68] [14, 15, 16, 17, 18, 19, 20, 21, 22, 23, 24, 25, 26, 27, 28, 29, 30, 31, 32, 33, 34, 35, 36, 37, 38, 39, 40, 41, 42, 43, 44, 45, 46, 47, 48, 49, 50, 51, 52, 53, 54, 55, 56, 57, 58, 59, 60, 61, 62, 63, 64, 65, 66, 67, 68, 0, 1, 2, 3, 4, 5, 6, 7, 8, 9, 10, 11, 12, 13] rfl rfl (by decide) (by decide) rfl (by decide) (fun H locs hP hD hS => ?_)
  refine lv_aload_n hx hb dL_law_525 rfl (lv_at hl 2 rfl) ?_
  refine lv_aload_n hx hb dL_law_526 rfl (lv_at hl 0 rfl) ?_
  refine lv_iload_n hx hb dL_law_527 rfl (lv_at hl 3 rfl) ?_
  refine lv_iconst (v := 1) hx hb dL_law_528 (by decide) ?_
  refine lv_iadd hx hb dL_law_529 ?_
  refine va_sld hx hb hX hbl hbA hS (hin 1 (by decide) (by decide)) dL_law_530 ?_
  refine jgi (w1 := fun u : Mo => wM cyI cyZ qb u) (wn := wX cyI cyZ cyT qa X1 ++ wM cyI cyZ qb M1) (jmV (As := [.int (xs (x3 + 1).toNatClampNeg)]) (rest := [.int (r, X1).1]) ⟨hx, hb, hml, hown, hts⟩ (c_X8_back l D cyI cyZ cyT qb H.size N (xs (x3 + 1).toNatClampNeg) M (r, M1) e2) (cwV 1 hts gL_law_X8_back rfl rfl rfl (by decide +kernel) ⟨Nat.le_of_ble_eq_true rfl, Nat.le_of_ble_eq_true rfl⟩) hK (hP.sub (ws' := wM cyI cyZ qb M) [55, 56, 57, 58, 59, 60, 61, 62, 63, 64, 65, 66, 67, 68] rfl) (hD.sub (ws' := wM cyI cyZ qb M) [55, 56, 57, 58, 59, 60, 61, 62, 63, 64, 65, 66, 67, 68] (by decide) rfl) rfl 8 0 rfl rfl rfl hl.1 (Nat.le_of_ble_eq_true rfl) dL_law_531 ⟨Nat.le_of_ble_eq_true rfl, Nat.le_of_ble_eq_true rfl⟩) hP hD hS hA [55, 56, 57, 58, 59, 60, 61, 62, 63, 64, 65, 66, 67, 68] [0, 1, 2, 3, 4, 5, 6, 7, 8, 9, 10, 11, 12, 13, 14, 15, 16, 17, 18, 19, 20, 21, 22, 23, 24, 25, 26, 27, 28, 29, 30, 31, 32, 33, 34, 35, 36, 37, 38, 39, 40, 41, 42, 43, 44, 45, 46, 47, 48, 49, 50, 51, 52, 53, 54] [0, 1, 2, 3, 4, 5, 6, 7, 8, 9, 10, 11, 12, 13, 14, 15, 16, 17, 18, 19, 20, 21, 22, 23, 24, 25, 26, 27, 28, 29, 30, 31, 32, 33, 34, 35, 36, 37, 38, 39, 40, 41, 42, 43, 44, 45, 46, 47, 48, 49, 50, 51, 52, 53, 54, 55, 56, 57, 58, 59, 60, 61, 62, 63, 64, 65, 66, 67, 68] rfl rfl (by decide) (by decide) rfl (by decide) (fun H locs hP hD hS => ?_)
  refine lv_icmp_eq (tgt := 1098) hx hb dL_law_534 (by decide) (fun _ => ?_) (fun c => absurd rfl c)
  exact hk X1 M1 hRel1 H locs hP hD hS ls hl
set_option maxHeartbeats 4000000 in
set_option maxRecDepth 100000 in
theorem law_through {p : Program} {l : Launch} {e : Env} {s : State} {m : MethodId} {below : List Frame} {meth : Method} {c : Code} {D : va_G} {cyI cyZ cyT : ClassId} {adK adV qa qb : Nat → Nat} {b L : Nat} {xs : Nat → Int32} {N : Nat} {Rel : BX → Mo → Prop} (C0 : lw_At p s m meth c b L xs) (hK : jK D cyI cyZ cyT s) (hZ : jStr adK adV (fun q : Nat => s.heap.size ≤ q) s s.heap) (x3 : Int32) (hin : ∀ k : Int32, k ≤ 5 → ¬ k < 0 → vp_in (x3 + k) L) (hR : ∀ (a1 : Int32) (X : BX) (M : Mo), Rel X M → ∃ (r : Int32) (M1 : Mo), f_X7_through N a1 X = some r ∧ f_X8_through N a1 M = some (r, M1) ∧ Rel X M1) (hk : ∀ (X : BX) (M : Mo), Rel X M → ∀ (H : Heap) (locs : List Loc), va_P D vwCl (wX cyI cyZ cyT qa X ++ wM cyI cyZ qb M) H → va_D (fun q : Nat => s.heap.size ≤ q) (wX cyI cyZ cyT qa X ++ wM cyI cyZ qb M) → va_S (fun q : Nat => s.heap.size ≤ q) s.heap H locs → ∀ (ls : Array Slot), lv_has ls 4 [(0, .ref b), (1, .ref (qa 0)), (2, .ref (qb 0)), (3, .int x3)] → W p l e room_1 s m #[Value.ref b] below meth c H locs 69 821 (lw_Z below #[Value.ref b] s) (F0 m 1098 ls [])) (X : BX) (M : Mo) (hRel : Rel X M) (H : Heap) (locs : List Loc) : va_P D vwCl (wX cyI cyZ cyT qa X ++ wM cyI cyZ qb M) H → va_D (fun q : Nat => s.heap.size ≤ q) (wX cyI cyZ cyT qa X ++ wM cyI cyZ qb M) → va_S (fun q : Nat => s.heap.size ≤ q) s.heap H locs → ∀ (ls : Array Slot), lv_has ls 4 [(0, .ref b), (1, .ref (qa 0)), (2, .ref (qb 0)), (3, .int x3)] → W p l e room_1 s m #[Value.ref b] below meth c H locs 69 821 (lw_Z below #[Value.ref b] s) (F0 m 539 ls []) := by
  obtain ⟨hx, hb, hr, hml, hown, hts, hX, hbl, hlocks, hgv⟩ := C0
  have hts := fun w h => hts w (wsL_law_in w h)
  have hA : ∀ q : Nat, s.heap.size ≤ q → (fun q : Nat => s.heap.size ≤ q) q := fun _ h => h
  have hbA : ¬ (fun q : Nat => s.heap.size ≤ q) b := Nat.not_le.mpr hbl
  intro hP hD hS ls hl
  obtain ⟨r, M1, e1, e2, hRel1⟩ := hR (xs (x3 + 1).toNatClampNeg) X M hRel
  refine lv_aload_n hx hb dL_law_539 rfl (lv_at hl 1 rfl) ?_
  refine lv_aload_n hx hb dL_law_540 rfl (lv_at hl 0 rfl) ?_
  refine lv_iload_n hx hb dL_law_541 rfl (lv_at hl 3 rfl) ?_
  refine lv_iconst (v := 1) hx hb dL_law_542 (by decide) ?_
  refine lv_iadd hx hb dL_law_543 ?_
  refine va_sld hx hb hX hbl hbA hS (hin 1 (by decide) (by decide)) dL_law_544 ?_
  refine jki (jrV (As := [.int (xs (x3 + 1).toNatClampNeg)]) (rest := []) ⟨hx, hb, hml, hown, hts⟩ (c_X7_through l D cyI cyZ cyT qa N (xs (x3 + 1).toNatClampNeg) X r e1) (cwV 1 hts gL_law_X7_through rfl rfl rfl (by decide +kernel) ⟨Nat.le_of_ble_eq_true rfl, Nat.le_of_ble_eq_true rfl⟩) hK (hP.sub (ws' := wX cyI cyZ cyT qa X) [0, 1, 2, 3, 4, 5, 6, 7, 8, 9, 10, 11, 12, 13, 14, 15, 16, 17, 18, 19, 20, 21, 22, 23, 24, 25, 26, 27, 28, 29, 30, 31, 32, 33, 34, 35, 36, 37, 38, 39, 40, 41, 42, 43, 44, 45, 46, 47, 48, 49, 50, 51, 52, 53, 54] rfl) rfl 7 0 rfl rfl rfl hl.1 (Nat.le_of_ble_eq_true rfl) dL_law_545 ⟨Nat.le_of_ble_eq_true rfl, Nat.le_of_ble_eq_true rfl⟩) ?_
  refine lv_aload_n hx hb dL_law_548 rfl (lv_at hl 2 rfl) ?_
  refine lv_aload_n hx hb dL_law_549 rfl (lv_at hl 0 rfl) ?_
  refine lv_iload_n hx hb dL_law_550 rfl (lv_at hl 3 rfl) ?_
  refine lv_iconst (v := 1) hx hb dL_law_551 (by decide) ?_
  refine lv_iadd hx hb dL_law_552 ?_
  refine va_sld hx hb hX hbl hbA hS (hin 1 (by decide) (by decide)) dL_law_553 ?_
  refine jgi (w1 := fun u : Mo => wM cyI cyZ qb u) (wn := wX cyI cyZ cyT qa X ++ wM cyI cyZ qb M1) (jmV (As := [.int (xs (x3 + 1).toNatClampNeg)]) (rest := [.int r]) ⟨hx, hb, hml, hown, hts⟩ (c_X8_through l D cyI cyZ cyT qb H.size N (xs (x3 + 1).toNatClampNeg) M (r, M1) e2) (cwV 1 hts gL_law_X8_through rfl rfl rfl (by decide +kernel) ⟨Nat.le_of_ble_eq_true rfl, Nat.le_of_ble_eq_true rfl⟩) hK (hP.sub (ws' := wM cyI cyZ qb M) [55, 56, 57, 58, 59, 60, 61, 62, 63, 64, 65, 66, 67, 68] rfl) (hD.sub (ws' := wM cyI cyZ qb M) [55, 56, 57, 58, 59, 60, 61, 62, 63, 64, 65, 66, 67, 68] (by decide) rfl) rfl 8 0 rfl rfl rfl hl.1 (Nat.le_of_ble_eq_true rfl) dL_law_554 ⟨Nat.le_of_ble_eq_true rfl, Nat.le_of_ble_eq_true rfl⟩) hP hD hS hA [55, 56, 57, 58, 59, 60, 61, 62, 63, 64, 65, 66, 67, 68] [0, 1, 2, 3, 4, 5, 6, 7, 8, 9, 10, 11, 12, 13, 14, 15, 16, 17, 18, 19, 20, 21, 22, 23, 24, 25, 26, 27, 28, 29, 30, 31, 32, 33, 34, 35, 36, 37, 38, 39, 40, 41, 42, 43, 44, 45, 46, 47, 48, 49, 50, 51, 52, 53, 54] [0, 1, 2, 3, 4, 5, 6, 7, 8, 9, 10, 11, 12, 13, 14, 15, 16, 17, 18, 19, 20, 21, 22, 23, 24, 25, 26, 27, 28, 29, 30, 31, 32, 33, 34, 35, 36, 37, 38, 39, 40, 41, 42, 43, 44, 45, 46, 47, 48, 49, 50, 51, 52, 53, 54, 55, 56, 57, 58, 59, 60, 61, 62, 63, 64, 65, 66, 67, 68] rfl rfl (by decide) (by decide) rfl (by decide) (fun H locs hP hD hS => ?_)
  refine lv_icmp_eq (tgt := 1098) hx hb dL_law_557 (by decide) (fun _ => ?_) (fun c => absurd rfl c)
  exact hk X M1 hRel1 H locs hP hD hS ls hl
set_option maxHeartbeats 4000000 in
set_option maxRecDepth 100000 in
theorem law_fails {p : Program} {l : Launch} {e : Env} {s : State} {m : MethodId} {below : List Frame} {meth : Method} {c : Code} {D : va_G} {cyI cyZ cyT : ClassId} {adK adV qa qb : Nat → Nat} {b L : Nat} {xs : Nat → Int32} {N : Nat} {Rel : BX → Mo → Prop} (C0 : lw_At p s m meth c b L xs) (hK : jK D cyI cyZ cyT s) (hZ : jStr adK adV (fun q : Nat => s.heap.size ≤ q) s s.heap) (x3 : Int32) (hin : ∀ k : Int32, k ≤ 5 → ¬ k < 0 → vp_in (x3 + k) L) (hR : ∀ (a1 a2 : Int32) (X : BX) (M : Mo), Rel X M → ∃ (r : Int32) (M1 : Mo), f_X7_fails N a1 a2 X = some r ∧ f_X8_fails_ N a1 a2 M = some (r, M1) ∧ Rel X M1) (hk : ∀ (X : BX) (M : Mo), Rel X M → ∀ (H : Heap) (locs : List Loc), va_P D vwCl (wX cyI cyZ cyT qa X ++ wM cyI cyZ qb M) H → va_D (fun q : Nat => s.heap.size ≤ q) (wX cyI cyZ cyT qa X ++ wM cyI cyZ qb M) → va_S (fun q : Nat => s.heap.size ≤ q) s.heap H locs → ∀ (ls : Array Slot), lv_has ls 4 [(0, .ref b), (1, .ref (qa 0)), (2, .ref (qb 0)), (3, .int x3)] → W p l e room_1 s m #[Value.ref b] below meth c H locs 69 821 (lw_Z below #[Value.ref b] s) (F0 m 1098 ls [])) (X : BX) (M : Mo) (hRel : Rel X M) (H : Heap) (locs : List Loc) : va_P D vwCl (wX cyI cyZ cyT qa X ++ wM cyI cyZ qb M) H → va_D (fun q : Nat => s.heap.size ≤ q) (wX cyI cyZ cyT qa X ++ wM cyI cyZ qb M) → va_S (fun q : Nat => s.heap.size ≤ q) s.heap H locs → ∀ (ls : Array Slot), lv_has ls 4 [(0, .ref b), (1, .ref (qa 0)), (2, .ref (qb 0)), (3, .int x3)] → W p l e room_1 s m #[Value.ref b] below meth c H locs 69 821 (lw_Z below #[Value.ref b] s) (F0 m 562 ls []) := by
  obtain ⟨hx, hb, hr, hml, hown, hts, hX, hbl, hlocks, hgv⟩ := C0
  have hts := fun w h => hts w (wsL_law_in w h)
  have hA : ∀ q : Nat, s.heap.size ≤ q → (fun q : Nat => s.heap.size ≤ q) q := fun _ h => h
  have hbA : ¬ (fun q : Nat => s.heap.size ≤ q) b := Nat.not_le.mpr hbl
  intro hP hD hS ls hl
  obtain ⟨r, M1, e1, e2, hRel1⟩ := hR (xs (x3 + 1).toNatClampNeg) (xs (x3 + 2).toNatClampNeg) X M hRel
  refine lv_aload_n hx hb dL_law_562 rfl (lv_at hl 1 rfl) ?_
  refine lv_aload_n hx hb dL_law_563 rfl (lv_at hl 0 rfl) ?_
  refine lv_iload_n hx hb dL_law_564 rfl (lv_at hl 3 rfl) ?_
  refine lv_iconst (v := 1) hx hb dL_law_565 (by decide) ?_
  refine lv_iadd hx hb dL_law_566 ?_
  refine va_sld hx hb hX hbl hbA hS (hin 1 (by decide) (by decide)) dL_law_567 ?_
  refine lv_aload_n hx hb dL_law_568 rfl (lv_at hl 0 rfl) ?_
  refine lv_iload_n hx hb dL_law_569 rfl (lv_at hl 3 rfl) ?_
  refine lv_iconst (v := 2) hx hb dL_law_570 (by decide) ?_
  refine lv_iadd hx hb dL_law_571 ?_
  refine va_sld hx hb hX hbl hbA hS (hin 2 (by decide) (by decide)) dL_law_572 ?_
  refine jki (jrV (As := [.int (xs (x3 + 1).toNatClampNeg), .int (xs (x3 + 2).toNatClampNeg)]) (rest := []) ⟨hx, hb, hml, hown, hts⟩ (c_X7_fails l D cyI cyZ cyT qa N (xs (x3 + 1).toNatClampNeg) (xs (x3 + 2).toNatClampNeg) X r e1) (cwV 2 hts gL_law_X7_fails rfl rfl rfl (by decide +kernel) ⟨Nat.le_of_ble_eq_true rfl, Nat.le_of_ble_eq_true rfl⟩) hK (hP.sub (ws' := wX cyI cyZ cyT qa X) [0, 1, 2, 3, 4, 5, 6, 7, 8, 9, 10, 11, 12, 13, 14, 15, 16, 17, 18, 19, 20, 21, 22, 23, 24, 25, 26, 27, 28, 29, 30, 31, 32, 33, 34, 35, 36, 37, 38, 39, 40, 41, 42, 43, 44, 45, 46, 47, 48, 49, 50, 51, 52, 53, 54] rfl) rfl 7 0 rfl rfl rfl hl.1 (Nat.le_of_ble_eq_true rfl) dL_law_573 ⟨Nat.le_of_ble_eq_true rfl, Nat.le_of_ble_eq_true rfl⟩) ?_
  refine lv_aload_n hx hb dL_law_576 rfl (lv_at hl 2 rfl) ?_
  refine lv_aload_n hx hb dL_law_577 rfl (lv_at hl 0 rfl) ?_
  refine lv_iload_n hx hb dL_law_578 rfl (lv_at hl 3 rfl) ?_
  refine lv_iconst (v := 1) hx hb dL_law_579 (by decide) ?_
  refine lv_iadd hx hb dL_law_580 ?_
  refine va_sld hx hb hX hbl hbA hS (hin 1 (by decide) (by decide)) dL_law_581 ?_
  refine lv_aload_n hx hb dL_law_582 rfl (lv_at hl 0 rfl) ?_
  refine lv_iload_n hx hb dL_law_583 rfl (lv_at hl 3 rfl) ?_
  refine lv_iconst (v := 2) hx hb dL_law_584 (by decide) ?_
  refine lv_iadd hx hb dL_law_585 ?_
  refine va_sld hx hb hX hbl hbA hS (hin 2 (by decide) (by decide)) dL_law_586 ?_
  refine jgi (w1 := fun u : Mo => wM cyI cyZ qb u) (wn := wX cyI cyZ cyT qa X ++ wM cyI cyZ qb M1) (jmV (As := [.int (xs (x3 + 1).toNatClampNeg), .int (xs (x3 + 2).toNatClampNeg)]) (rest := [.int r]) ⟨hx, hb, hml, hown, hts⟩ (c_X8_fails_ l D cyI cyZ cyT qb H.size N (xs (x3 + 1).toNatClampNeg) (xs (x3 + 2).toNatClampNeg) M (r, M1) e2) (cwV 2 hts gL_law_X8_fails_ rfl rfl rfl (by decide +kernel) ⟨Nat.le_of_ble_eq_true rfl, Nat.le_of_ble_eq_true rfl⟩) hK (hP.sub (ws' := wM cyI cyZ qb M) [55, 56, 57, 58, 59, 60, 61, 62, 63, 64, 65, 66, 67, 68] rfl) (hD.sub (ws' := wM cyI cyZ qb M) [55, 56, 57, 58, 59, 60, 61, 62, 63, 64, 65, 66, 67, 68] (by decide) rfl) rfl 8 0 rfl rfl rfl hl.1 (Nat.le_of_ble_eq_true rfl) dL_law_587 ⟨Nat.le_of_ble_eq_true rfl, Nat.le_of_ble_eq_true rfl⟩) hP hD hS hA [55, 56, 57, 58, 59, 60, 61, 62, 63, 64, 65, 66, 67, 68] [0, 1, 2, 3, 4, 5, 6, 7, 8, 9, 10, 11, 12, 13, 14, 15, 16, 17, 18, 19, 20, 21, 22, 23, 24, 25, 26, 27, 28, 29, 30, 31, 32, 33, 34, 35, 36, 37, 38, 39, 40, 41, 42, 43, 44, 45, 46, 47, 48, 49, 50, 51, 52, 53, 54] [0, 1, 2, 3, 4, 5, 6, 7, 8, 9, 10, 11, 12, 13, 14, 15, 16, 17, 18, 19, 20, 21, 22, 23, 24, 25, 26, 27, 28, 29, 30, 31, 32, 33, 34, 35, 36, 37, 38, 39, 40, 41, 42, 43, 44, 45, 46, 47, 48, 49, 50, 51, 52, 53, 54, 55, 56, 57, 58, 59, 60, 61, 62, 63, 64, 65, 66, 67, 68] rfl rfl (by decide) (by decide) rfl (by decide) (fun H locs hP hD hS => ?_)
  refine lv_icmp_eq (tgt := 1098) hx hb dL_law_590 (by decide) (fun _ => ?_) (fun c => absurd rfl c)
  exact hk X M1 hRel1 H locs hP hD hS ls hl
set_option maxHeartbeats 4000000 in
set_option maxRecDepth 100000 in
theorem law_loss {p : Program} {l : Launch} {e : Env} {s : State} {m : MethodId} {below : List Frame} {meth : Method} {c : Code} {D : va_G} {cyI cyZ cyT : ClassId} {adK adV qa qb : Nat → Nat} {b L : Nat} {xs : Nat → Int32} {N : Nat} {Rel : BX → Mo → Prop} (C0 : lw_At p s m meth c b L xs) (hK : jK D cyI cyZ cyT s) (hZ : jStr adK adV (fun q : Nat => s.heap.size ≤ q) s s.heap) (x3 : Int32) (hin : ∀ k : Int32, k ≤ 5 → ¬ k < 0 → vp_in (x3 + k) L) (hR : ∀ (a1 : Int32) (X : BX) (M : Mo), Rel X M → ∃ (r : Int32) (M1 : Mo), f_X7_loss N a1 X = some r ∧ f_X8_loss N a1 M = some (r, M1) ∧ Rel X M1) (hk : ∀ (X : BX) (M : Mo), Rel X M → ∀ (H : Heap) (locs : List Loc), va_P D vwCl (wX cyI cyZ cyT qa X ++ wM cyI cyZ qb M) H → va_D (fun q : Nat => s.heap.size ≤ q) (wX cyI cyZ cyT qa X ++ wM cyI cyZ qb M) → va_S (fun q : Nat => s.heap.size ≤ q) s.heap H locs → ∀ (ls : Array Slot), lv_has ls 4 [(0, .ref b), (1, .ref (qa 0)), (2, .ref (qb 0)), (3, .int x3)] → W p l e room_1 s m #[Value.ref b] below meth c H locs 69 821 (lw_Z below #[Value.ref b] s) (F0 m 1098 ls [])) (X : BX) (M : Mo) (hRel : Rel X M) (H : Heap) (locs : List Loc) : va_P D vwCl (wX cyI cyZ cyT qa X ++ wM cyI cyZ qb M) H → va_D (fun q : Nat => s.heap.size ≤ q) (wX cyI cyZ cyT qa X ++ wM cyI cyZ qb M) → va_S (fun q : Nat => s.heap.size ≤ q) s.heap H locs → ∀ (ls : Array Slot), lv_has ls 4 [(0, .ref b), (1, .ref (qa 0)), (2, .ref (qb 0)), (3, .int x3)] → W p l e room_1 s m #[Value.ref b] below meth c H locs 69 821 (lw_Z below #[Value.ref b] s) (F0 m 595 ls []) := by
  obtain ⟨hx, hb, hr, hml, hown, hts, hX, hbl, hlocks, hgv⟩ := C0
  have hts := fun w h => hts w (wsL_law_in w h)
  have hA : ∀ q : Nat, s.heap.size ≤ q → (fun q : Nat => s.heap.size ≤ q) q := fun _ h => h
  have hbA : ¬ (fun q : Nat => s.heap.size ≤ q) b := Nat.not_le.mpr hbl
  intro hP hD hS ls hl
  obtain ⟨r, M1, e1, e2, hRel1⟩ := hR (xs (x3 + 1).toNatClampNeg) X M hRel
  refine lv_aload_n hx hb dL_law_595 rfl (lv_at hl 1 rfl) ?_
  refine lv_aload_n hx hb dL_law_596 rfl (lv_at hl 0 rfl) ?_
  refine lv_iload_n hx hb dL_law_597 rfl (lv_at hl 3 rfl) ?_
  refine lv_iconst (v := 1) hx hb dL_law_598 (by decide) ?_
  refine lv_iadd hx hb dL_law_599 ?_
  refine va_sld hx hb hX hbl hbA hS (hin 1 (by decide) (by decide)) dL_law_600 ?_
  refine jki (jrV (As := [.int (xs (x3 + 1).toNatClampNeg)]) (rest := []) ⟨hx, hb, hml, hown, hts⟩ (c_X7_loss l D cyI cyZ cyT qa N (xs (x3 + 1).toNatClampNeg) X r e1) (cwV 1 hts gL_law_X7_loss rfl rfl rfl (by decide +kernel) ⟨Nat.le_of_ble_eq_true rfl, Nat.le_of_ble_eq_true rfl⟩) hK (hP.sub (ws' := wX cyI cyZ cyT qa X) [0, 1, 2, 3, 4, 5, 6, 7, 8, 9, 10, 11, 12, 13, 14, 15, 16, 17, 18, 19, 20, 21, 22, 23, 24, 25, 26, 27, 28, 29, 30, 31, 32, 33, 34, 35, 36, 37, 38, 39, 40, 41, 42, 43, 44, 45, 46, 47, 48, 49, 50, 51, 52, 53, 54] rfl) rfl 7 0 rfl rfl rfl hl.1 (Nat.le_of_ble_eq_true rfl) dL_law_601 ⟨Nat.le_of_ble_eq_true rfl, Nat.le_of_ble_eq_true rfl⟩) ?_
  refine lv_aload_n hx hb dL_law_604 rfl (lv_at hl 2 rfl) ?_
  refine lv_aload_n hx hb dL_law_605 rfl (lv_at hl 0 rfl) ?_
  refine lv_iload_n hx hb dL_law_606 rfl (lv_at hl 3 rfl) ?_
  refine lv_iconst (v := 1) hx hb dL_law_607 (by decide) ?_
  refine lv_iadd hx hb dL_law_608 ?_
  refine va_sld hx hb hX hbl hbA hS (hin 1 (by decide) (by decide)) dL_law_609 ?_
  refine jgi (w1 := fun u : Mo => wM cyI cyZ qb u) (wn := wX cyI cyZ cyT qa X ++ wM cyI cyZ qb M1) (jmV (As := [.int (xs (x3 + 1).toNatClampNeg)]) (rest := [.int r]) ⟨hx, hb, hml, hown, hts⟩ (c_X8_loss l D cyI cyZ cyT qb H.size N (xs (x3 + 1).toNatClampNeg) M (r, M1) e2) (cwV 1 hts gL_law_X8_loss rfl rfl rfl (by decide +kernel) ⟨Nat.le_of_ble_eq_true rfl, Nat.le_of_ble_eq_true rfl⟩) hK (hP.sub (ws' := wM cyI cyZ qb M) [55, 56, 57, 58, 59, 60, 61, 62, 63, 64, 65, 66, 67, 68] rfl) (hD.sub (ws' := wM cyI cyZ qb M) [55, 56, 57, 58, 59, 60, 61, 62, 63, 64, 65, 66, 67, 68] (by decide) rfl) rfl 8 0 rfl rfl rfl hl.1 (Nat.le_of_ble_eq_true rfl) dL_law_610 ⟨Nat.le_of_ble_eq_true rfl, Nat.le_of_ble_eq_true rfl⟩) hP hD hS hA [55, 56, 57, 58, 59, 60, 61, 62, 63, 64, 65, 66, 67, 68] [0, 1, 2, 3, 4, 5, 6, 7, 8, 9, 10, 11, 12, 13, 14, 15, 16, 17, 18, 19, 20, 21, 22, 23, 24, 25, 26, 27, 28, 29, 30, 31, 32, 33, 34, 35, 36, 37, 38, 39, 40, 41, 42, 43, 44, 45, 46, 47, 48, 49, 50, 51, 52, 53, 54] [0, 1, 2, 3, 4, 5, 6, 7, 8, 9, 10, 11, 12, 13, 14, 15, 16, 17, 18, 19, 20, 21, 22, 23, 24, 25, 26, 27, 28, 29, 30, 31, 32, 33, 34, 35, 36, 37, 38, 39, 40, 41, 42, 43, 44, 45, 46, 47, 48, 49, 50, 51, 52, 53, 54, 55, 56, 57, 58, 59, 60, 61, 62, 63, 64, 65, 66, 67, 68] rfl rfl (by decide) (by decide) rfl (by decide) (fun H locs hP hD hS => ?_)
  refine lv_icmp_eq (tgt := 1098) hx hb dL_law_613 (by decide) (fun _ => ?_) (fun c => absurd rfl c)
  exact hk X M1 hRel1 H locs hP hD hS ls hl
set_option maxHeartbeats 4000000 in
set_option maxRecDepth 100000 in
theorem law_best {p : Program} {l : Launch} {e : Env} {s : State} {m : MethodId} {below : List Frame} {meth : Method} {c : Code} {D : va_G} {cyI cyZ cyT : ClassId} {adK adV qa qb : Nat → Nat} {b L : Nat} {xs : Nat → Int32} {N : Nat} {Rel : BX → Mo → Prop} (C0 : lw_At p s m meth c b L xs) (hK : jK D cyI cyZ cyT s) (hZ : jStr adK adV (fun q : Nat => s.heap.size ≤ q) s s.heap) (x3 : Int32) (hin : ∀ k : Int32, k ≤ 5 → ¬ k < 0 → vp_in (x3 + k) L) (hR : ∀ (a1 : Int32) (X : BX) (M : Mo), Rel X M → ∃ (r : Int32) (X1 : BX) (M1 : Mo), f_X7_best N a1 X = some (r, X1) ∧ f_X8_best N a1 M = some (r, M1) ∧ Rel X1 M1) (hk : ∀ (X : BX) (M : Mo), Rel X M → ∀ (H : Heap) (locs : List Loc), va_P D vwCl (wX cyI cyZ cyT qa X ++ wM cyI cyZ qb M) H → va_D (fun q : Nat => s.heap.size ≤ q) (wX cyI cyZ cyT qa X ++ wM cyI cyZ qb M) → va_S (fun q : Nat => s.heap.size ≤ q) s.heap H locs → ∀ (ls : Array Slot), lv_has ls 4 [(0, .ref b), (1, .ref (qa 0)), (2, .ref (qb 0)), (3, .int x3)] → W p l e room_1 s m #[Value.ref b] below meth c H locs 69 821 (lw_Z below #[Value.ref b] s) (F0 m 1098 ls [])) (X : BX) (M : Mo) (hRel : Rel X M) (H : Heap) (locs : List Loc) : va_P D vwCl (wX cyI cyZ cyT qa X ++ wM cyI cyZ qb M) H → va_D (fun q : Nat => s.heap.size ≤ q) (wX cyI cyZ cyT qa X ++ wM cyI cyZ qb M) → va_S (fun q : Nat => s.heap.size ≤ q) s.heap H locs → ∀ (ls : Array Slot), lv_has ls 4 [(0, .ref b), (1, .ref (qa 0)), (2, .ref (qb 0)), (3, .int x3)] → W p l e room_1 s m #[Value.ref b] below meth c H locs 69 821 (lw_Z below #[Value.ref b] s) (F0 m 618 ls []) := by
  obtain ⟨hx, hb, hr, hml, hown, hts, hX, hbl, hlocks, hgv⟩ := C0
  have hts := fun w h => hts w (wsL_law_in w h)
  have hA : ∀ q : Nat, s.heap.size ≤ q → (fun q : Nat => s.heap.size ≤ q) q := fun _ h => h
  have hbA : ¬ (fun q : Nat => s.heap.size ≤ q) b := Nat.not_le.mpr hbl
  intro hP hD hS ls hl
  obtain ⟨r, X1, M1, e1, e2, hRel1⟩ := hR (xs (x3 + 1).toNatClampNeg) X M hRel
  refine lv_aload_n hx hb dL_law_618 rfl (lv_at hl 1 rfl) ?_
  refine lv_aload_n hx hb dL_law_619 rfl (lv_at hl 0 rfl) ?_
  refine lv_iload_n hx hb dL_law_620 rfl (lv_at hl 3 rfl) ?_
  refine lv_iconst (v := 1) hx hb dL_law_621 (by decide) ?_
  refine lv_iadd hx hb dL_law_622 ?_
  refine va_sld hx hb hX hbl hbA hS (hin 1 (by decide) (by decide)) dL_law_623 ?_
  refine jgi (w1 := fun u : BX => wX cyI cyZ cyT qa u) (wn := wX cyI cyZ cyT qa X1 ++ wM cyI cyZ qb M) (jmV (As := [.int (xs (x3 + 1).toNatClampNeg)]) (rest := []) ⟨hx, hb, hml, hown, hts⟩ (c_X7_best l D cyI cyZ cyT qa H.size N (xs (x3 + 1).toNatClampNeg) X (r, X1) e1) (cwV 1 hts gL_law_X7_best rfl rfl rfl (by decide +kernel) ⟨Nat.le_of_ble_eq_true rfl, Nat.le_of_ble_eq_true rfl⟩) hK (hP.sub (ws' := wX cyI cyZ cyT qa X) [0, 1, 2, 3, 4, 5, 6, 7, 8, 9, 10, 11, 12, 13, 14, 15, 16, 17, 18, 19, 20, 21, 22, 23, 24, 25, 26, 27, 28, 29, 30, 31, 32, 33, 34, 35, 36, 37, 38, 39, 40, 41, 42, 43, 44, 45, 46, 47, 48, 49, 50, 51, 52, 53, 54] rfl) (hD.sub (ws' := wX cyI cyZ cyT qa X) [0, 1, 2, 3, 4, 5, 6, 7, 8, 9, 10, 11, 12, 13, 14, 15, 16, 17, 18, 19, 20, 21, 22, 23, 24, 25, 26, 27, 28, 29, 30, 31, 32, 33, 34, 35, 36, 37, 38, 39, 40, 41, 42, 43, 44, 45, 46, 47, 48, 49, 50, 51, 52, 53, 54] (by decide) rfl) rfl 7 0 rfl rfl rfl hl.1 (Nat.le_of_ble_eq_true rfl) dL_law_624 ⟨Nat.le_of_ble_eq_true rfl, Nat.le_of_ble_eq_true rfl⟩) hP hD hS hA [0, 1, 2, 3, 4, 5, 6, 7, 8, 9, 10, 11, 12, 13, 14, 15, 16, 17, 18, 19, 20, 21, 22, 23, 24, 25, 26, 27, 28, 29, 30, 31, 32, 33, 34, 35, 36, 37, 38, 39, 40, 41, 42, 43, 44, 45, 46, 47, 48, 49, 50, 51, 52, 53, 54] [55, 56, 57, 58, 59, 60, 61, 62, 63, 64, 65, 66, 67, 68] [14, 15, 16, 17, 18, 19, 20, 21, 22, 23, 24, 25, 26, 27, 28, 29, 30, 31, 32, 33, 34, 35, 36, 37, 38, 39, 40, 41, 42, 43, 44, 45, 46, 47, 48, 49, 50, 51, 52, 53, 54, 55, 56, 57, 58, 59, 60, 61, 62, 63, 64, 65, 66, 67, 68, 0, 1, 2, 3, 4, 5, 6, 7, 8, 9, 10, 11, 12, 13] rfl rfl (by decide) (by decide) rfl (by decide) (fun H locs hP hD hS => ?_)
  refine lv_aload_n hx hb dL_law_627 rfl (lv_at hl 2 rfl) ?_
  refine lv_aload_n hx hb dL_law_628 rfl (lv_at hl 0 rfl) ?_
  refine lv_iload_n hx hb dL_law_629 rfl (lv_at hl 3 rfl) ?_
  refine lv_iconst (v := 1) hx hb dL_law_630 (by decide) ?_
  refine lv_iadd hx hb dL_law_631 ?_
  refine va_sld hx hb hX hbl hbA hS (hin 1 (by decide) (by decide)) dL_law_632 ?_
  refine jgi (w1 := fun u : Mo => wM cyI cyZ qb u) (wn := wX cyI cyZ cyT qa X1 ++ wM cyI cyZ qb M1) (jmV (As := [.int (xs (x3 + 1).toNatClampNeg)]) (rest := [.int (r, X1).1]) ⟨hx, hb, hml, hown, hts⟩ (c_X8_best l D cyI cyZ cyT qb H.size N (xs (x3 + 1).toNatClampNeg) M (r, M1) e2) (cwV 1 hts gL_law_X8_best rfl rfl rfl (by decide +kernel) ⟨Nat.le_of_ble_eq_true rfl, Nat.le_of_ble_eq_true rfl⟩) hK (hP.sub (ws' := wM cyI cyZ qb M) [55, 56, 57, 58, 59, 60, 61, 62, 63, 64, 65, 66, 67, 68] rfl) (hD.sub (ws' := wM cyI cyZ qb M) [55, 56, 57, 58, 59, 60, 61, 62, 63, 64, 65, 66, 67, 68] (by decide) rfl) rfl 8 0 rfl rfl rfl hl.1 (Nat.le_of_ble_eq_true rfl) dL_law_633 ⟨Nat.le_of_ble_eq_true rfl, Nat.le_of_ble_eq_true rfl⟩) hP hD hS hA [55, 56, 57, 58, 59, 60, 61, 62, 63, 64, 65, 66, 67, 68] [0, 1, 2, 3, 4, 5, 6, 7, 8, 9, 10, 11, 12, 13, 14, 15, 16, 17, 18, 19, 20, 21, 22, 23, 24, 25, 26, 27, 28, 29, 30, 31, 32, 33, 34, 35, 36, 37, 38, 39, 40, 41, 42, 43, 44, 45, 46, 47, 48, 49, 50, 51, 52, 53, 54] [0, 1, 2, 3, 4, 5, 6, 7, 8, 9, 10, 11, 12, 13, 14, 15, 16, 17, 18, 19, 20, 21, 22, 23, 24, 25, 26, 27, 28, 29, 30, 31, 32, 33, 34, 35, 36, 37, 38, 39, 40, 41, 42, 43, 44, 45, 46, 47, 48, 49, 50, 51, 52, 53, 54, 55, 56, 57, 58, 59, 60, 61, 62, 63, 64, 65, 66, 67, 68] rfl rfl (by decide) (by decide) rfl (by decide) (fun H locs hP hD hS => ?_)
  refine lv_icmp_eq (tgt := 1098) hx hb dL_law_636 (by decide) (fun _ => ?_) (fun c => absurd rfl c)
  exact hk X1 M1 hRel1 H locs hP hD hS ls hl
set_option maxHeartbeats 4000000 in
set_option maxRecDepth 100000 in
theorem law_bestOf {p : Program} {l : Launch} {e : Env} {s : State} {m : MethodId} {below : List Frame} {meth : Method} {c : Code} {D : va_G} {cyI cyZ cyT : ClassId} {adK adV qa qb : Nat → Nat} {b L : Nat} {xs : Nat → Int32} {N : Nat} {Rel : BX → Mo → Prop} (C0 : lw_At p s m meth c b L xs) (hK : jK D cyI cyZ cyT s) (hZ : jStr adK adV (fun q : Nat => s.heap.size ≤ q) s s.heap) (x3 : Int32) (hin : ∀ k : Int32, k ≤ 5 → ¬ k < 0 → vp_in (x3 + k) L) (hR : ∀ (a1 : Int32) (X : BX) (M : Mo), Rel X M → ∃ (r : Int32) (X1 : BX) (M1 : Mo), f_X7_bestOf N a1 X = some (r, X1) ∧ f_X8_bestOf N a1 M = some (r, M1) ∧ Rel X1 M1) (hk : ∀ (X : BX) (M : Mo), Rel X M → ∀ (H : Heap) (locs : List Loc), va_P D vwCl (wX cyI cyZ cyT qa X ++ wM cyI cyZ qb M) H → va_D (fun q : Nat => s.heap.size ≤ q) (wX cyI cyZ cyT qa X ++ wM cyI cyZ qb M) → va_S (fun q : Nat => s.heap.size ≤ q) s.heap H locs → ∀ (ls : Array Slot), lv_has ls 4 [(0, .ref b), (1, .ref (qa 0)), (2, .ref (qb 0)), (3, .int x3)] → W p l e room_1 s m #[Value.ref b] below meth c H locs 69 821 (lw_Z below #[Value.ref b] s) (F0 m 1098 ls [])) (X : BX) (M : Mo) (hRel : Rel X M) (H : Heap) (locs : List Loc) : va_P D vwCl (wX cyI cyZ cyT qa X ++ wM cyI cyZ qb M) H → va_D (fun q : Nat => s.heap.size ≤ q) (wX cyI cyZ cyT qa X ++ wM cyI cyZ qb M) → va_S (fun q : Nat => s.heap.size ≤ q) s.heap H locs → ∀ (ls : Array Slot), lv_has ls 4 [(0, .ref b), (1, .ref (qa 0)), (2, .ref (qb 0)), (3, .int x3)] → W p l e room_1 s m #[Value.ref b] below meth c H locs 69 821 (lw_Z below #[Value.ref b] s) (F0 m 641 ls []) := by
  obtain ⟨hx, hb, hr, hml, hown, hts, hX, hbl, hlocks, hgv⟩ := C0
  have hts := fun w h => hts w (wsL_law_in w h)
  have hA : ∀ q : Nat, s.heap.size ≤ q → (fun q : Nat => s.heap.size ≤ q) q := fun _ h => h
  have hbA : ¬ (fun q : Nat => s.heap.size ≤ q) b := Nat.not_le.mpr hbl
  intro hP hD hS ls hl
  obtain ⟨r, X1, M1, e1, e2, hRel1⟩ := hR (xs (x3 + 1).toNatClampNeg) X M hRel
  refine lv_aload_n hx hb dL_law_641 rfl (lv_at hl 1 rfl) ?_
  refine lv_aload_n hx hb dL_law_642 rfl (lv_at hl 0 rfl) ?_
  refine lv_iload_n hx hb dL_law_643 rfl (lv_at hl 3 rfl) ?_
  refine lv_iconst (v := 1) hx hb dL_law_644 (by decide) ?_
  refine lv_iadd hx hb dL_law_645 ?_
  refine va_sld hx hb hX hbl hbA hS (hin 1 (by decide) (by decide)) dL_law_646 ?_
  refine jgi (w1 := fun u : BX => wX cyI cyZ cyT qa u) (wn := wX cyI cyZ cyT qa X1 ++ wM cyI cyZ qb M) (jmV (As := [.int (xs (x3 + 1).toNatClampNeg)]) (rest := []) ⟨hx, hb, hml, hown, hts⟩ (c_X7_bestOf l D cyI cyZ cyT qa H.size N (xs (x3 + 1).toNatClampNeg) X (r, X1) e1) (cwV 1 hts gL_law_X7_bestOf rfl rfl rfl (by decide +kernel) ⟨Nat.le_of_ble_eq_true rfl, Nat.le_of_ble_eq_true rfl⟩) hK (hP.sub (ws' := wX cyI cyZ cyT qa X) [0, 1, 2, 3, 4, 5, 6, 7, 8, 9, 10, 11, 12, 13, 14, 15, 16, 17, 18, 19, 20, 21, 22, 23, 24, 25, 26, 27, 28, 29, 30, 31, 32, 33, 34, 35, 36, 37, 38, 39, 40, 41, 42, 43, 44, 45, 46, 47, 48, 49, 50, 51, 52, 53, 54] rfl) (hD.sub (ws' := wX cyI cyZ cyT qa X) [0, 1, 2, 3, 4, 5, 6, 7, 8, 9, 10, 11, 12, 13, 14, 15, 16, 17, 18, 19, 20, 21, 22, 23, 24, 25, 26, 27, 28, 29, 30, 31, 32, 33, 34, 35, 36, 37, 38, 39, 40, 41, 42, 43, 44, 45, 46, 47, 48, 49, 50, 51, 52, 53, 54] (by decide) rfl) rfl 7 0 rfl rfl rfl hl.1 (Nat.le_of_ble_eq_true rfl) dL_law_647 ⟨Nat.le_of_ble_eq_true rfl, Nat.le_of_ble_eq_true rfl⟩) hP hD hS hA [0, 1, 2, 3, 4, 5, 6, 7, 8, 9, 10, 11, 12, 13, 14, 15, 16, 17, 18, 19, 20, 21, 22, 23, 24, 25, 26, 27, 28, 29, 30, 31, 32, 33, 34, 35, 36, 37, 38, 39, 40, 41, 42, 43, 44, 45, 46, 47, 48, 49, 50, 51, 52, 53, 54] [55, 56, 57, 58, 59, 60, 61, 62, 63, 64, 65, 66, 67, 68] [14, 15, 16, 17, 18, 19, 20, 21, 22, 23, 24, 25, 26, 27, 28, 29, 30, 31, 32, 33, 34, 35, 36, 37, 38, 39, 40, 41, 42, 43, 44, 45, 46, 47, 48, 49, 50, 51, 52, 53, 54, 55, 56, 57, 58, 59, 60, 61, 62, 63, 64, 65, 66, 67, 68, 0, 1, 2, 3, 4, 5, 6, 7, 8, 9, 10, 11, 12, 13] rfl rfl (by decide) (by decide) rfl (by decide) (fun H locs hP hD hS => ?_)
  refine lv_aload_n hx hb dL_law_650 rfl (lv_at hl 2 rfl) ?_
  refine lv_aload_n hx hb dL_law_651 rfl (lv_at hl 0 rfl) ?_
  refine lv_iload_n hx hb dL_law_652 rfl (lv_at hl 3 rfl) ?_
  refine lv_iconst (v := 1) hx hb dL_law_653 (by decide) ?_
  refine lv_iadd hx hb dL_law_654 ?_
  refine va_sld hx hb hX hbl hbA hS (hin 1 (by decide) (by decide)) dL_law_655 ?_
  refine jgi (w1 := fun u : Mo => wM cyI cyZ qb u) (wn := wX cyI cyZ cyT qa X1 ++ wM cyI cyZ qb M1) (jmV (As := [.int (xs (x3 + 1).toNatClampNeg)]) (rest := [.int (r, X1).1]) ⟨hx, hb, hml, hown, hts⟩ (c_X8_bestOf l D cyI cyZ cyT qb H.size N (xs (x3 + 1).toNatClampNeg) M (r, M1) e2) (cwV 1 hts gL_law_X8_bestOf rfl rfl rfl (by decide +kernel) ⟨Nat.le_of_ble_eq_true rfl, Nat.le_of_ble_eq_true rfl⟩) hK (hP.sub (ws' := wM cyI cyZ qb M) [55, 56, 57, 58, 59, 60, 61, 62, 63, 64, 65, 66, 67, 68] rfl) (hD.sub (ws' := wM cyI cyZ qb M) [55, 56, 57, 58, 59, 60, 61, 62, 63, 64, 65, 66, 67, 68] (by decide) rfl) rfl 8 0 rfl rfl rfl hl.1 (Nat.le_of_ble_eq_true rfl) dL_law_656 ⟨Nat.le_of_ble_eq_true rfl, Nat.le_of_ble_eq_true rfl⟩) hP hD hS hA [55, 56, 57, 58, 59, 60, 61, 62, 63, 64, 65, 66, 67, 68] [0, 1, 2, 3, 4, 5, 6, 7, 8, 9, 10, 11, 12, 13, 14, 15, 16, 17, 18, 19, 20, 21, 22, 23, 24, 25, 26, 27, 28, 29, 30, 31, 32, 33, 34, 35, 36, 37, 38, 39, 40, 41, 42, 43, 44, 45, 46, 47, 48, 49, 50, 51, 52, 53, 54] [0, 1, 2, 3, 4, 5, 6, 7, 8, 9, 10, 11, 12, 13, 14, 15, 16, 17, 18, 19, 20, 21, 22, 23, 24, 25, 26, 27, 28, 29, 30, 31, 32, 33, 34, 35, 36, 37, 38, 39, 40, 41, 42, 43, 44, 45, 46, 47, 48, 49, 50, 51, 52, 53, 54, 55, 56, 57, 58, 59, 60, 61, 62, 63, 64, 65, 66, 67, 68] rfl rfl (by decide) (by decide) rfl (by decide) (fun H locs hP hD hS => ?_)
  refine lv_icmp_eq (tgt := 1098) hx hb dL_law_659 (by decide) (fun _ => ?_) (fun c => absurd rfl c)
  exact hk X1 M1 hRel1 H locs hP hD hS ls hl
set_option maxHeartbeats 4000000 in
set_option maxRecDepth 100000 in
theorem law_drawn {p : Program} {l : Launch} {e : Env} {s : State} {m : MethodId} {below : List Frame} {meth : Method} {c : Code} {D : va_G} {cyI cyZ cyT : ClassId} {adK adV qa qb : Nat → Nat} {b L : Nat} {xs : Nat → Int32} {N : Nat} {Rel : BX → Mo → Prop} (C0 : lw_At p s m meth c b L xs) (hK : jK D cyI cyZ cyT s) (hZ : jStr adK adV (fun q : Nat => s.heap.size ≤ q) s s.heap) (x3 : Int32) (hin : ∀ k : Int32, k ≤ 5 → ¬ k < 0 → vp_in (x3 + k) L) (hR : ∀ (a1 a2 : Int32) (X : BX) (M : Mo), Rel X M → ∃ (r : Int32) (M1 : Mo), f_X7_drawn N a1 a2 X = some r ∧ f_X8_drawn N a1 a2 M = some (r, M1) ∧ Rel X M1) (hk : ∀ (X : BX) (M : Mo), Rel X M → ∀ (H : Heap) (locs : List Loc), va_P D vwCl (wX cyI cyZ cyT qa X ++ wM cyI cyZ qb M) H → va_D (fun q : Nat => s.heap.size ≤ q) (wX cyI cyZ cyT qa X ++ wM cyI cyZ qb M) → va_S (fun q : Nat => s.heap.size ≤ q) s.heap H locs → ∀ (ls : Array Slot), lv_has ls 4 [(0, .ref b), (1, .ref (qa 0)), (2, .ref (qb 0)), (3, .int x3)] → W p l e room_1 s m #[Value.ref b] below meth c H locs 69 821 (lw_Z below #[Value.ref b] s) (F0 m 1098 ls [])) (X : BX) (M : Mo) (hRel : Rel X M) (H : Heap) (locs : List Loc) : va_P D vwCl (wX cyI cyZ cyT qa X ++ wM cyI cyZ qb M) H → va_D (fun q : Nat => s.heap.size ≤ q) (wX cyI cyZ cyT qa X ++ wM cyI cyZ qb M) → va_S (fun q : Nat => s.heap.size ≤ q) s.heap H locs → ∀ (ls : Array Slot), lv_has ls 4 [(0, .ref b), (1, .ref (qa 0)), (2, .ref (qb 0)), (3, .int x3)] → W p l e room_1 s m #[Value.ref b] below meth c H locs 69 821 (lw_Z below #[Value.ref b] s) (F0 m 664 ls []) := by
  obtain ⟨hx, hb, hr, hml, hown, hts, hX, hbl, hlocks, hgv⟩ := C0
  have hts := fun w h => hts w (wsL_law_in w h)
  have hA : ∀ q : Nat, s.heap.size ≤ q → (fun q : Nat => s.heap.size ≤ q) q := fun _ h => h
  have hbA : ¬ (fun q : Nat => s.heap.size ≤ q) b := Nat.not_le.mpr hbl
  intro hP hD hS ls hl
  obtain ⟨r, M1, e1, e2, hRel1⟩ := hR (xs (x3 + 1).toNatClampNeg) (xs (x3 + 2).toNatClampNeg) X M hRel
  refine lv_aload_n hx hb dL_law_664 rfl (lv_at hl 1 rfl) ?_
  refine lv_aload_n hx hb dL_law_665 rfl (lv_at hl 0 rfl) ?_
  refine lv_iload_n hx hb dL_law_666 rfl (lv_at hl 3 rfl) ?_
  refine lv_iconst (v := 1) hx hb dL_law_667 (by decide) ?_
  refine lv_iadd hx hb dL_law_668 ?_
  refine va_sld hx hb hX hbl hbA hS (hin 1 (by decide) (by decide)) dL_law_669 ?_
  refine lv_aload_n hx hb dL_law_670 rfl (lv_at hl 0 rfl) ?_
  refine lv_iload_n hx hb dL_law_671 rfl (lv_at hl 3 rfl) ?_
  refine lv_iconst (v := 2) hx hb dL_law_672 (by decide) ?_
  refine lv_iadd hx hb dL_law_673 ?_
  refine va_sld hx hb hX hbl hbA hS (hin 2 (by decide) (by decide)) dL_law_674 ?_
  refine jki (jrV (As := [.int (xs (x3 + 1).toNatClampNeg), .int (xs (x3 + 2).toNatClampNeg)]) (rest := []) ⟨hx, hb, hml, hown, hts⟩ (c_X7_drawn l D cyI cyZ cyT qa N (xs (x3 + 1).toNatClampNeg) (xs (x3 + 2).toNatClampNeg) X r e1) (cwV 2 hts gL_law_X7_drawn rfl rfl rfl (by decide +kernel) ⟨Nat.le_of_ble_eq_true rfl, Nat.le_of_ble_eq_true rfl⟩) hK (hP.sub (ws' := wX cyI cyZ cyT qa X) [0, 1, 2, 3, 4, 5, 6, 7, 8, 9, 10, 11, 12, 13, 14, 15, 16, 17, 18, 19, 20, 21, 22, 23, 24, 25, 26, 27, 28, 29, 30, 31, 32, 33, 34, 35, 36, 37, 38, 39, 40, 41, 42, 43, 44, 45, 46, 47, 48, 49, 50, 51, 52, 53, 54] rfl) rfl 7 0 rfl rfl rfl hl.1 (Nat.le_of_ble_eq_true rfl) dL_law_675 ⟨Nat.le_of_ble_eq_true rfl, Nat.le_of_ble_eq_true rfl⟩) ?_
  refine lv_aload_n hx hb dL_law_678 rfl (lv_at hl 2 rfl) ?_
  refine lv_aload_n hx hb dL_law_679 rfl (lv_at hl 0 rfl) ?_
  refine lv_iload_n hx hb dL_law_680 rfl (lv_at hl 3 rfl) ?_
  refine lv_iconst (v := 1) hx hb dL_law_681 (by decide) ?_
  refine lv_iadd hx hb dL_law_682 ?_
  refine va_sld hx hb hX hbl hbA hS (hin 1 (by decide) (by decide)) dL_law_683 ?_
  refine lv_aload_n hx hb dL_law_684 rfl (lv_at hl 0 rfl) ?_
  refine lv_iload_n hx hb dL_law_685 rfl (lv_at hl 3 rfl) ?_
  refine lv_iconst (v := 2) hx hb dL_law_686 (by decide) ?_
  refine lv_iadd hx hb dL_law_687 ?_
  refine va_sld hx hb hX hbl hbA hS (hin 2 (by decide) (by decide)) dL_law_688 ?_
  refine jgi (w1 := fun u : Mo => wM cyI cyZ qb u) (wn := wX cyI cyZ cyT qa X ++ wM cyI cyZ qb M1) (jmV (As := [.int (xs (x3 + 1).toNatClampNeg), .int (xs (x3 + 2).toNatClampNeg)]) (rest := [.int r]) ⟨hx, hb, hml, hown, hts⟩ (c_X8_drawn l D cyI cyZ cyT qb H.size N (xs (x3 + 1).toNatClampNeg) (xs (x3 + 2).toNatClampNeg) M (r, M1) e2) (cwV 2 hts gL_law_X8_drawn rfl rfl rfl (by decide +kernel) ⟨Nat.le_of_ble_eq_true rfl, Nat.le_of_ble_eq_true rfl⟩) hK (hP.sub (ws' := wM cyI cyZ qb M) [55, 56, 57, 58, 59, 60, 61, 62, 63, 64, 65, 66, 67, 68] rfl) (hD.sub (ws' := wM cyI cyZ qb M) [55, 56, 57, 58, 59, 60, 61, 62, 63, 64, 65, 66, 67, 68] (by decide) rfl) rfl 8 0 rfl rfl rfl hl.1 (Nat.le_of_ble_eq_true rfl) dL_law_689 ⟨Nat.le_of_ble_eq_true rfl, Nat.le_of_ble_eq_true rfl⟩) hP hD hS hA [55, 56, 57, 58, 59, 60, 61, 62, 63, 64, 65, 66, 67, 68] [0, 1, 2, 3, 4, 5, 6, 7, 8, 9, 10, 11, 12, 13, 14, 15, 16, 17, 18, 19, 20, 21, 22, 23, 24, 25, 26, 27, 28, 29, 30, 31, 32, 33, 34, 35, 36, 37, 38, 39, 40, 41, 42, 43, 44, 45, 46, 47, 48, 49, 50, 51, 52, 53, 54] [0, 1, 2, 3, 4, 5, 6, 7, 8, 9, 10, 11, 12, 13, 14, 15, 16, 17, 18, 19, 20, 21, 22, 23, 24, 25, 26, 27, 28, 29, 30, 31, 32, 33, 34, 35, 36, 37, 38, 39, 40, 41, 42, 43, 44, 45, 46, 47, 48, 49, 50, 51, 52, 53, 54, 55, 56, 57, 58, 59, 60, 61, 62, 63, 64, 65, 66, 67, 68] rfl rfl (by decide) (by decide) rfl (by decide) (fun H locs hP hD hS => ?_)
  refine lv_icmp_eq (tgt := 1098) hx hb dL_law_692 (by decide) (fun _ => ?_) (fun c => absurd rfl c)
  exact hk X M1 hRel1 H locs hP hD hS ls hl
set_option maxHeartbeats 4000000 in
set_option maxRecDepth 100000 in
theorem law_alone {p : Program} {l : Launch} {e : Env} {s : State} {m : MethodId} {below : List Frame} {meth : Method} {c : Code} {D : va_G} {cyI cyZ cyT : ClassId} {adK adV qa qb : Nat → Nat} {b L : Nat} {xs : Nat → Int32} {N : Nat} {Rel : BX → Mo → Prop} (C0 : lw_At p s m meth c b L xs) (hK : jK D cyI cyZ cyT s) (hZ : jStr adK adV (fun q : Nat => s.heap.size ≤ q) s s.heap) (x3 : Int32) (hin : ∀ k : Int32, k ≤ 5 → ¬ k < 0 → vp_in (x3 + k) L) (hR : ∀ (a1 a2 : Int32) (X : BX) (M : Mo), Rel X M → ∃ (r : Int32) (M1 : Mo), f_X7_alone N a1 a2 X = some r ∧ f_X8_alone N a1 a2 M = some (r, M1) ∧ Rel X M1) (hk : ∀ (X : BX) (M : Mo), Rel X M → ∀ (H : Heap) (locs : List Loc), va_P D vwCl (wX cyI cyZ cyT qa X ++ wM cyI cyZ qb M) H → va_D (fun q : Nat => s.heap.size ≤ q) (wX cyI cyZ cyT qa X ++ wM cyI cyZ qb M) → va_S (fun q : Nat => s.heap.size ≤ q) s.heap H locs → ∀ (ls : Array Slot), lv_has ls 4 [(0, .ref b), (1, .ref (qa 0)), (2, .ref (qb 0)), (3, .int x3)] → W p l e room_1 s m #[Value.ref b] below meth c H locs 69 821 (lw_Z below #[Value.ref b] s) (F0 m 1098 ls [])) (X : BX) (M : Mo) (hRel : Rel X M) (H : Heap) (locs : List Loc) : va_P D vwCl (wX cyI cyZ cyT qa X ++ wM cyI cyZ qb M) H → va_D (fun q : Nat => s.heap.size ≤ q) (wX cyI cyZ cyT qa X ++ wM cyI cyZ qb M) → va_S (fun q : Nat => s.heap.size ≤ q) s.heap H locs → ∀ (ls : Array Slot), lv_has ls 4 [(0, .ref b), (1, .ref (qa 0)), (2, .ref (qb 0)), (3, .int x3)] → W p l e room_1 s m #[Value.ref b] below meth c H locs 69 821 (lw_Z below #[Value.ref b] s) (F0 m 697 ls []) := by
  obtain ⟨hx, hb, hr, hml, hown, hts, hX, hbl, hlocks, hgv⟩ := C0
  have hts := fun w h => hts w (wsL_law_in w h)
  have hA : ∀ q : Nat, s.heap.size ≤ q → (fun q : Nat => s.heap.size ≤ q) q := fun _ h => h
  have hbA : ¬ (fun q : Nat => s.heap.size ≤ q) b := Nat.not_le.mpr hbl
  intro hP hD hS ls hl
  obtain ⟨r, M1, e1, e2, hRel1⟩ := hR (xs (x3 + 1).toNatClampNeg) (xs (x3 + 2).toNatClampNeg) X M hRel
  refine lv_aload_n hx hb dL_law_697 rfl (lv_at hl 1 rfl) ?_
  refine lv_aload_n hx hb dL_law_698 rfl (lv_at hl 0 rfl) ?_
  refine lv_iload_n hx hb dL_law_699 rfl (lv_at hl 3 rfl) ?_
  refine lv_iconst (v := 1) hx hb dL_law_700 (by decide) ?_
  refine lv_iadd hx hb dL_law_701 ?_
  refine va_sld hx hb hX hbl hbA hS (hin 1 (by decide) (by decide)) dL_law_702 ?_
  refine lv_aload_n hx hb dL_law_703 rfl (lv_at hl 0 rfl) ?_
  refine lv_iload_n hx hb dL_law_704 rfl (lv_at hl 3 rfl) ?_
  refine lv_iconst (v := 2) hx hb dL_law_705 (by decide) ?_
  refine lv_iadd hx hb dL_law_706 ?_
  refine va_sld hx hb hX hbl hbA hS (hin 2 (by decide) (by decide)) dL_law_707 ?_
  refine jki (jrV (As := [.int (xs (x3 + 1).toNatClampNeg), .int (xs (x3 + 2).toNatClampNeg)]) (rest := []) ⟨hx, hb, hml, hown, hts⟩ (c_X7_alone l D cyI cyZ cyT qa N (xs (x3 + 1).toNatClampNeg) (xs (x3 + 2).toNatClampNeg) X r e1) (cwV 2 hts gL_law_X7_alone rfl rfl rfl (by decide +kernel) ⟨Nat.le_of_ble_eq_true rfl, Nat.le_of_ble_eq_true rfl⟩) hK (hP.sub (ws' := wX cyI cyZ cyT qa X) [0, 1, 2, 3, 4, 5, 6, 7, 8, 9, 10, 11, 12, 13, 14, 15, 16, 17, 18, 19, 20, 21, 22, 23, 24, 25, 26, 27, 28, 29, 30, 31, 32, 33, 34, 35, 36, 37, 38, 39, 40, 41, 42, 43, 44, 45, 46, 47, 48, 49, 50, 51, 52, 53, 54] rfl) rfl 7 0 rfl rfl rfl hl.1 (Nat.le_of_ble_eq_true rfl) dL_law_708 ⟨Nat.le_of_ble_eq_true rfl, Nat.le_of_ble_eq_true rfl⟩) ?_
  refine lv_aload_n hx hb dL_law_711 rfl (lv_at hl 2 rfl) ?_
  refine lv_aload_n hx hb dL_law_712 rfl (lv_at hl 0 rfl) ?_
  refine lv_iload_n hx hb dL_law_713 rfl (lv_at hl 3 rfl) ?_
  refine lv_iconst (v := 1) hx hb dL_law_714 (by decide) ?_
  refine lv_iadd hx hb dL_law_715 ?_
  refine va_sld hx hb hX hbl hbA hS (hin 1 (by decide) (by decide)) dL_law_716 ?_
  refine lv_aload_n hx hb dL_law_717 rfl (lv_at hl 0 rfl) ?_
  refine lv_iload_n hx hb dL_law_718 rfl (lv_at hl 3 rfl) ?_
  refine lv_iconst (v := 2) hx hb dL_law_719 (by decide) ?_
  refine lv_iadd hx hb dL_law_720 ?_
  refine va_sld hx hb hX hbl hbA hS (hin 2 (by decide) (by decide)) dL_law_721 ?_
  refine jgi (w1 := fun u : Mo => wM cyI cyZ qb u) (wn := wX cyI cyZ cyT qa X ++ wM cyI cyZ qb M1) (jmV (As := [.int (xs (x3 + 1).toNatClampNeg), .int (xs (x3 + 2).toNatClampNeg)]) (rest := [.int r]) ⟨hx, hb, hml, hown, hts⟩ (c_X8_alone l D cyI cyZ cyT qb H.size N (xs (x3 + 1).toNatClampNeg) (xs (x3 + 2).toNatClampNeg) M (r, M1) e2) (cwV 2 hts gL_law_X8_alone rfl rfl rfl (by decide +kernel) ⟨Nat.le_of_ble_eq_true rfl, Nat.le_of_ble_eq_true rfl⟩) hK (hP.sub (ws' := wM cyI cyZ qb M) [55, 56, 57, 58, 59, 60, 61, 62, 63, 64, 65, 66, 67, 68] rfl) (hD.sub (ws' := wM cyI cyZ qb M) [55, 56, 57, 58, 59, 60, 61, 62, 63, 64, 65, 66, 67, 68] (by decide) rfl) rfl 8 0 rfl rfl rfl hl.1 (Nat.le_of_ble_eq_true rfl) dL_law_722 ⟨Nat.le_of_ble_eq_true rfl, Nat.le_of_ble_eq_true rfl⟩) hP hD hS hA [55, 56, 57, 58, 59, 60, 61, 62, 63, 64, 65, 66, 67, 68] [0, 1, 2, 3, 4, 5, 6, 7, 8, 9, 10, 11, 12, 13, 14, 15, 16, 17, 18, 19, 20, 21, 22, 23, 24, 25, 26, 27, 28, 29, 30, 31, 32, 33, 34, 35, 36, 37, 38, 39, 40, 41, 42, 43, 44, 45, 46, 47, 48, 49, 50, 51, 52, 53, 54] [0, 1, 2, 3, 4, 5, 6, 7, 8, 9, 10, 11, 12, 13, 14, 15, 16, 17, 18, 19, 20, 21, 22, 23, 24, 25, 26, 27, 28, 29, 30, 31, 32, 33, 34, 35, 36, 37, 38, 39, 40, 41, 42, 43, 44, 45, 46, 47, 48, 49, 50, 51, 52, 53, 54, 55, 56, 57, 58, 59, 60, 61, 62, 63, 64, 65, 66, 67, 68] rfl rfl (by decide) (by decide) rfl (by decide) (fun H locs hP hD hS => ?_)
  refine lv_icmp_eq (tgt := 1098) hx hb dL_law_725 (by decide) (fun _ => ?_) (fun c => absurd rfl c)
  exact hk X M1 hRel1 H locs hP hD hS ls hl
set_option maxHeartbeats 4000000 in
set_option maxRecDepth 100000 in
theorem law_dread {p : Program} {l : Launch} {e : Env} {s : State} {m : MethodId} {below : List Frame} {meth : Method} {c : Code} {D : va_G} {cyI cyZ cyT : ClassId} {adK adV qa qb : Nat → Nat} {b L : Nat} {xs : Nat → Int32} {N : Nat} {Rel : BX → Mo → Prop} (C0 : lw_At p s m meth c b L xs) (hK : jK D cyI cyZ cyT s) (hZ : jStr adK adV (fun q : Nat => s.heap.size ≤ q) s s.heap) (x3 : Int32) (hin : ∀ k : Int32, k ≤ 5 → ¬ k < 0 → vp_in (x3 + k) L) (hR : ∀ (a1 a2 : Int32) (X : BX) (M : Mo), Rel X M → ∃ (r : Int32) (M1 : Mo), f_X7_dread N a1 a2 X = some r ∧ f_X8_dread N a1 a2 M = some (r, M1) ∧ Rel X M1) (hk : ∀ (X : BX) (M : Mo), Rel X M → ∀ (H : Heap) (locs : List Loc), va_P D vwCl (wX cyI cyZ cyT qa X ++ wM cyI cyZ qb M) H → va_D (fun q : Nat => s.heap.size ≤ q) (wX cyI cyZ cyT qa X ++ wM cyI cyZ qb M) → va_S (fun q : Nat => s.heap.size ≤ q) s.heap H locs → ∀ (ls : Array Slot), lv_has ls 4 [(0, .ref b), (1, .ref (qa 0)), (2, .ref (qb 0)), (3, .int x3)] → W p l e room_1 s m #[Value.ref b] below meth c H locs 69 821 (lw_Z below #[Value.ref b] s) (F0 m 1098 ls [])) (X : BX) (M : Mo) (hRel : Rel X M) (H : Heap) (locs : List Loc) : va_P D vwCl (wX cyI cyZ cyT qa X ++ wM cyI cyZ qb M) H → va_D (fun q : Nat => s.heap.size ≤ q) (wX cyI cyZ cyT qa X ++ wM cyI cyZ qb M) → va_S (fun q : Nat => s.heap.size ≤ q) s.heap H locs → ∀ (ls : Array Slot), lv_has ls 4 [(0, .ref b), (1, .ref (qa 0)), (2, .ref (qb 0)), (3, .int x3)] → W p l e room_1 s m #[Value.ref b] below meth c H locs 69 821 (lw_Z below #[Value.ref b] s) (F0 m 730 ls []) := by
  obtain ⟨hx, hb, hr, hml, hown, hts, hX, hbl, hlocks, hgv⟩ := C0
  have hts := fun w h => hts w (wsL_law_in w h)
  have hA : ∀ q : Nat, s.heap.size ≤ q → (fun q : Nat => s.heap.size ≤ q) q := fun _ h => h
  have hbA : ¬ (fun q : Nat => s.heap.size ≤ q) b := Nat.not_le.mpr hbl
  intro hP hD hS ls hl
  obtain ⟨r, M1, e1, e2, hRel1⟩ := hR (xs (x3 + 1).toNatClampNeg) (xs (x3 + 2).toNatClampNeg) X M hRel
  refine lv_aload_n hx hb dL_law_730 rfl (lv_at hl 1 rfl) ?_
  refine lv_aload_n hx hb dL_law_731 rfl (lv_at hl 0 rfl) ?_
  refine lv_iload_n hx hb dL_law_732 rfl (lv_at hl 3 rfl) ?_
  refine lv_iconst (v := 1) hx hb dL_law_733 (by decide) ?_
  refine lv_iadd hx hb dL_law_734 ?_
  refine va_sld hx hb hX hbl hbA hS (hin 1 (by decide) (by decide)) dL_law_735 ?_
  refine lv_aload_n hx hb dL_law_736 rfl (lv_at hl 0 rfl) ?_
  refine lv_iload_n hx hb dL_law_737 rfl (lv_at hl 3 rfl) ?_
  refine lv_iconst (v := 2) hx hb dL_law_738 (by decide) ?_
  refine lv_iadd hx hb dL_law_739 ?_
  refine va_sld hx hb hX hbl hbA hS (hin 2 (by decide) (by decide)) dL_law_740 ?_
  refine jki (jrV (As := [.int (xs (x3 + 1).toNatClampNeg), .int (xs (x3 + 2).toNatClampNeg)]) (rest := []) ⟨hx, hb, hml, hown, hts⟩ (c_X7_dread l D cyI cyZ cyT qa N (xs (x3 + 1).toNatClampNeg) (xs (x3 + 2).toNatClampNeg) X r e1) (cwV 2 hts gL_law_X7_dread rfl rfl rfl (by decide +kernel) ⟨Nat.le_of_ble_eq_true rfl, Nat.le_of_ble_eq_true rfl⟩) hK (hP.sub (ws' := wX cyI cyZ cyT qa X) [0, 1, 2, 3, 4, 5, 6, 7, 8, 9, 10, 11, 12, 13, 14, 15, 16, 17, 18, 19, 20, 21, 22, 23, 24, 25, 26, 27, 28, 29, 30, 31, 32, 33, 34, 35, 36, 37, 38, 39, 40, 41, 42, 43, 44, 45, 46, 47, 48, 49, 50, 51, 52, 53, 54] rfl) rfl 7 0 rfl rfl rfl hl.1 (Nat.le_of_ble_eq_true rfl) dL_law_741 ⟨Nat.le_of_ble_eq_true rfl, Nat.le_of_ble_eq_true rfl⟩) ?_
  refine lv_aload_n hx hb dL_law_744 rfl (lv_at hl 2 rfl) ?_
  refine lv_aload_n hx hb dL_law_745 rfl (lv_at hl 0 rfl) ?_
  refine lv_iload_n hx hb dL_law_746 rfl (lv_at hl 3 rfl) ?_
  refine lv_iconst (v := 1) hx hb dL_law_747 (by decide) ?_
  refine lv_iadd hx hb dL_law_748 ?_
  refine va_sld hx hb hX hbl hbA hS (hin 1 (by decide) (by decide)) dL_law_749 ?_
  refine lv_aload_n hx hb dL_law_750 rfl (lv_at hl 0 rfl) ?_
  refine lv_iload_n hx hb dL_law_751 rfl (lv_at hl 3 rfl) ?_
  refine lv_iconst (v := 2) hx hb dL_law_752 (by decide) ?_
  refine lv_iadd hx hb dL_law_753 ?_
  refine va_sld hx hb hX hbl hbA hS (hin 2 (by decide) (by decide)) dL_law_754 ?_
  refine jgi (w1 := fun u : Mo => wM cyI cyZ qb u) (wn := wX cyI cyZ cyT qa X ++ wM cyI cyZ qb M1) (jmV (As := [.int (xs (x3 + 1).toNatClampNeg), .int (xs (x3 + 2).toNatClampNeg)]) (rest := [.int r]) ⟨hx, hb, hml, hown, hts⟩ (c_X8_dread l D cyI cyZ cyT qb H.size N (xs (x3 + 1).toNatClampNeg) (xs (x3 + 2).toNatClampNeg) M (r, M1) e2) (cwV 2 hts gL_law_X8_dread rfl rfl rfl (by decide +kernel) ⟨Nat.le_of_ble_eq_true rfl, Nat.le_of_ble_eq_true rfl⟩) hK (hP.sub (ws' := wM cyI cyZ qb M) [55, 56, 57, 58, 59, 60, 61, 62, 63, 64, 65, 66, 67, 68] rfl) (hD.sub (ws' := wM cyI cyZ qb M) [55, 56, 57, 58, 59, 60, 61, 62, 63, 64, 65, 66, 67, 68] (by decide) rfl) rfl 8 0 rfl rfl rfl hl.1 (Nat.le_of_ble_eq_true rfl) dL_law_755 ⟨Nat.le_of_ble_eq_true rfl, Nat.le_of_ble_eq_true rfl⟩) hP hD hS hA [55, 56, 57, 58, 59, 60, 61, 62, 63, 64, 65, 66, 67, 68] [0, 1, 2, 3, 4, 5, 6, 7, 8, 9, 10, 11, 12, 13, 14, 15, 16, 17, 18, 19, 20, 21, 22, 23, 24, 25, 26, 27, 28, 29, 30, 31, 32, 33, 34, 35, 36, 37, 38, 39, 40, 41, 42, 43, 44, 45, 46, 47, 48, 49, 50, 51, 52, 53, 54] [0, 1, 2, 3, 4, 5, 6, 7, 8, 9, 10, 11, 12, 13, 14, 15, 16, 17, 18, 19, 20, 21, 22, 23, 24, 25, 26, 27, 28, 29, 30, 31, 32, 33, 34, 35, 36, 37, 38, 39, 40, 41, 42, 43, 44, 45, 46, 47, 48, 49, 50, 51, 52, 53, 54, 55, 56, 57, 58, 59, 60, 61, 62, 63, 64, 65, 66, 67, 68] rfl rfl (by decide) (by decide) rfl (by decide) (fun H locs hP hD hS => ?_)
  refine lv_icmp_eq (tgt := 1098) hx hb dL_law_758 (by decide) (fun _ => ?_) (fun c => absurd rfl c)
  exact hk X M1 hRel1 H locs hP hD hS ls hl
set_option maxHeartbeats 4000000 in
set_option maxRecDepth 100000 in
theorem law_hires {p : Program} {l : Launch} {e : Env} {s : State} {m : MethodId} {below : List Frame} {meth : Method} {c : Code} {D : va_G} {cyI cyZ cyT : ClassId} {adK adV qa qb : Nat → Nat} {b L : Nat} {xs : Nat → Int32} {N : Nat} {Rel : BX → Mo → Prop} (C0 : lw_At p s m meth c b L xs) (hK : jK D cyI cyZ cyT s) (hZ : jStr adK adV (fun q : Nat => s.heap.size ≤ q) s s.heap) (x3 : Int32) (hin : ∀ k : Int32, k ≤ 5 → ¬ k < 0 → vp_in (x3 + k) L) (hR : ∀ (a1 : Int32) (X : BX) (M : Mo), Rel X M → ∃ (r : Int32) (M1 : Mo), f_X7_hires N a1 X = some r ∧ f_X8_hires N a1 M = some (r, M1) ∧ Rel X M1) (hk : ∀ (X : BX) (M : Mo), Rel X M → ∀ (H : Heap) (locs : List Loc), va_P D vwCl (wX cyI cyZ cyT qa X ++ wM cyI cyZ qb M) H → va_D (fun q : Nat => s.heap.size ≤ q) (wX cyI cyZ cyT qa X ++ wM cyI cyZ qb M) → va_S (fun q : Nat => s.heap.size ≤ q) s.heap H locs → ∀ (ls : Array Slot), lv_has ls 4 [(0, .ref b), (1, .ref (qa 0)), (2, .ref (qb 0)), (3, .int x3)] → W p l e room_1 s m #[Value.ref b] below meth c H locs 69 821 (lw_Z below #[Value.ref b] s) (F0 m 1098 ls [])) (X : BX) (M : Mo) (hRel : Rel X M) (H : Heap) (locs : List Loc) : va_P D vwCl (wX cyI cyZ cyT qa X ++ wM cyI cyZ qb M) H → va_D (fun q : Nat => s.heap.size ≤ q) (wX cyI cyZ cyT qa X ++ wM cyI cyZ qb M) → va_S (fun q : Nat => s.heap.size ≤ q) s.heap H locs → ∀ (ls : Array Slot), lv_has ls 4 [(0, .ref b), (1, .ref (qa 0)), (2, .ref (qb 0)), (3, .int x3)] → W p l e room_1 s m #[Value.ref b] below meth c H locs 69 821 (lw_Z below #[Value.ref b] s) (F0 m 763 ls []) := by
  obtain ⟨hx, hb, hr, hml, hown, hts, hX, hbl, hlocks, hgv⟩ := C0
  have hts := fun w h => hts w (wsL_law_in w h)
  have hA : ∀ q : Nat, s.heap.size ≤ q → (fun q : Nat => s.heap.size ≤ q) q := fun _ h => h
  have hbA : ¬ (fun q : Nat => s.heap.size ≤ q) b := Nat.not_le.mpr hbl
  intro hP hD hS ls hl
  obtain ⟨r, M1, e1, e2, hRel1⟩ := hR (xs (x3 + 1).toNatClampNeg) X M hRel
  refine lv_aload_n hx hb dL_law_763 rfl (lv_at hl 1 rfl) ?_
  refine lv_aload_n hx hb dL_law_764 rfl (lv_at hl 0 rfl) ?_
  refine lv_iload_n hx hb dL_law_765 rfl (lv_at hl 3 rfl) ?_
  refine lv_iconst (v := 1) hx hb dL_law_766 (by decide) ?_
  refine lv_iadd hx hb dL_law_767 ?_
  refine va_sld hx hb hX hbl hbA hS (hin 1 (by decide) (by decide)) dL_law_768 ?_
  refine jki (jrV (As := [.int (xs (x3 + 1).toNatClampNeg)]) (rest := []) ⟨hx, hb, hml, hown, hts⟩ (c_X7_hires l D cyI cyZ cyT qa N (xs (x3 + 1).toNatClampNeg) X r e1) (cwV 1 hts gL_law_X7_hires rfl rfl rfl (by decide +kernel) ⟨Nat.le_of_ble_eq_true rfl, Nat.le_of_ble_eq_true rfl⟩) hK (hP.sub (ws' := wX cyI cyZ cyT qa X) [0, 1, 2, 3, 4, 5, 6, 7, 8, 9, 10, 11, 12, 13, 14, 15, 16, 17, 18, 19, 20, 21, 22, 23, 24, 25, 26, 27, 28, 29, 30, 31, 32, 33, 34, 35, 36, 37, 38, 39, 40, 41, 42, 43, 44, 45, 46, 47, 48, 49, 50, 51, 52, 53, 54] rfl) rfl 7 0 rfl rfl rfl hl.1 (Nat.le_of_ble_eq_true rfl) dL_law_769 ⟨Nat.le_of_ble_eq_true rfl, Nat.le_of_ble_eq_true rfl⟩) ?_
  refine lv_aload_n hx hb dL_law_772 rfl (lv_at hl 2 rfl) ?_
  refine lv_aload_n hx hb dL_law_773 rfl (lv_at hl 0 rfl) ?_
  refine lv_iload_n hx hb dL_law_774 rfl (lv_at hl 3 rfl) ?_
  refine lv_iconst (v := 1) hx hb dL_law_775 (by decide) ?_
  refine lv_iadd hx hb dL_law_776 ?_
  refine va_sld hx hb hX hbl hbA hS (hin 1 (by decide) (by decide)) dL_law_777 ?_
  refine jgi (w1 := fun u : Mo => wM cyI cyZ qb u) (wn := wX cyI cyZ cyT qa X ++ wM cyI cyZ qb M1) (jmV (As := [.int (xs (x3 + 1).toNatClampNeg)]) (rest := [.int r]) ⟨hx, hb, hml, hown, hts⟩ (c_X8_hires l D cyI cyZ cyT qb H.size N (xs (x3 + 1).toNatClampNeg) M (r, M1) e2) (cwV 1 hts gL_law_X8_hires rfl rfl rfl (by decide +kernel) ⟨Nat.le_of_ble_eq_true rfl, Nat.le_of_ble_eq_true rfl⟩) hK (hP.sub (ws' := wM cyI cyZ qb M) [55, 56, 57, 58, 59, 60, 61, 62, 63, 64, 65, 66, 67, 68] rfl) (hD.sub (ws' := wM cyI cyZ qb M) [55, 56, 57, 58, 59, 60, 61, 62, 63, 64, 65, 66, 67, 68] (by decide) rfl) rfl 8 0 rfl rfl rfl hl.1 (Nat.le_of_ble_eq_true rfl) dL_law_778 ⟨Nat.le_of_ble_eq_true rfl, Nat.le_of_ble_eq_true rfl⟩) hP hD hS hA [55, 56, 57, 58, 59, 60, 61, 62, 63, 64, 65, 66, 67, 68] [0, 1, 2, 3, 4, 5, 6, 7, 8, 9, 10, 11, 12, 13, 14, 15, 16, 17, 18, 19, 20, 21, 22, 23, 24, 25, 26, 27, 28, 29, 30, 31, 32, 33, 34, 35, 36, 37, 38, 39, 40, 41, 42, 43, 44, 45, 46, 47, 48, 49, 50, 51, 52, 53, 54] [0, 1, 2, 3, 4, 5, 6, 7, 8, 9, 10, 11, 12, 13, 14, 15, 16, 17, 18, 19, 20, 21, 22, 23, 24, 25, 26, 27, 28, 29, 30, 31, 32, 33, 34, 35, 36, 37, 38, 39, 40, 41, 42, 43, 44, 45, 46, 47, 48, 49, 50, 51, 52, 53, 54, 55, 56, 57, 58, 59, 60, 61, 62, 63, 64, 65, 66, 67, 68] rfl rfl (by decide) (by decide) rfl (by decide) (fun H locs hP hD hS => ?_)
  refine lv_icmp_eq (tgt := 1098) hx hb dL_law_781 (by decide) (fun _ => ?_) (fun c => absurd rfl c)
  exact hk X M1 hRel1 H locs hP hD hS ls hl
set_option maxHeartbeats 4000000 in
set_option maxRecDepth 100000 in
theorem law_rests {p : Program} {l : Launch} {e : Env} {s : State} {m : MethodId} {below : List Frame} {meth : Method} {c : Code} {D : va_G} {cyI cyZ cyT : ClassId} {adK adV qa qb : Nat → Nat} {b L : Nat} {xs : Nat → Int32} {N : Nat} {Rel : BX → Mo → Prop} (C0 : lw_At p s m meth c b L xs) (hK : jK D cyI cyZ cyT s) (hZ : jStr adK adV (fun q : Nat => s.heap.size ≤ q) s s.heap) (x3 : Int32) (hin : ∀ k : Int32, k ≤ 5 → ¬ k < 0 → vp_in (x3 + k) L) (hR : ∀ (a1 a2 : Int32) (X : BX) (M : Mo), Rel X M → ∃ (r : Int32) (X1 : BX) (M1 : Mo), f_X7_rests N a1 a2 X = some (r, X1) ∧ f_X8_rests N a1 a2 M = some (r, M1) ∧ Rel X1 M1) (hk : ∀ (X : BX) (M : Mo), Rel X M → ∀ (H : Heap) (locs : List Loc), va_P D vwCl (wX cyI cyZ cyT qa X ++ wM cyI cyZ qb M) H → va_D (fun q : Nat => s.heap.size ≤ q) (wX cyI cyZ cyT qa X ++ wM cyI cyZ qb M) → va_S (fun q : Nat => s.heap.size ≤ q) s.heap H locs → ∀ (ls : Array Slot), lv_has ls 4 [(0, .ref b), (1, .ref (qa 0)), (2, .ref (qb 0)), (3, .int x3)] → W p l e room_1 s m #[Value.ref b] below meth c H locs 69 821 (lw_Z below #[Value.ref b] s) (F0 m 1098 ls [])) (X : BX) (M : Mo) (hRel : Rel X M) (H : Heap) (locs : List Loc) : va_P D vwCl (wX cyI cyZ cyT qa X ++ wM cyI cyZ qb M) H → va_D (fun q : Nat => s.heap.size ≤ q) (wX cyI cyZ cyT qa X ++ wM cyI cyZ qb M) → va_S (fun q : Nat => s.heap.size ≤ q) s.heap H locs → ∀ (ls : Array Slot), lv_has ls 4 [(0, .ref b), (1, .ref (qa 0)), (2, .ref (qb 0)), (3, .int x3)] → W p l e room_1 s m #[Value.ref b] below meth c H locs 69 821 (lw_Z below #[Value.ref b] s) (F0 m 786 ls []) := by
  obtain ⟨hx, hb, hr, hml, hown, hts, hX, hbl, hlocks, hgv⟩ := C0
  have hts := fun w h => hts w (wsL_law_in w h)
  have hA : ∀ q : Nat, s.heap.size ≤ q → (fun q : Nat => s.heap.size ≤ q) q := fun _ h => h
  have hbA : ¬ (fun q : Nat => s.heap.size ≤ q) b := Nat.not_le.mpr hbl
  intro hP hD hS ls hl
  obtain ⟨r, X1, M1, e1, e2, hRel1⟩ := hR (xs (x3 + 1).toNatClampNeg) (xs (x3 + 2).toNatClampNeg) X M hRel
  refine lv_aload_n hx hb dL_law_786 rfl (lv_at hl 1 rfl) ?_
  refine lv_aload_n hx hb dL_law_787 rfl (lv_at hl 0 rfl) ?_
  refine lv_iload_n hx hb dL_law_788 rfl (lv_at hl 3 rfl) ?_
  refine lv_iconst (v := 1) hx hb dL_law_789 (by decide) ?_
  refine lv_iadd hx hb dL_law_790 ?_
  refine va_sld hx hb hX hbl hbA hS (hin 1 (by decide) (by decide)) dL_law_791 ?_
  refine lv_aload_n hx hb dL_law_792 rfl (lv_at hl 0 rfl) ?_
  refine lv_iload_n hx hb dL_law_793 rfl (lv_at hl 3 rfl) ?_
  refine lv_iconst (v := 2) hx hb dL_law_794 (by decide) ?_
  refine lv_iadd hx hb dL_law_795 ?_
  refine va_sld hx hb hX hbl hbA hS (hin 2 (by decide) (by decide)) dL_law_796 ?_
  refine jgi (w1 := fun u : BX => wX cyI cyZ cyT qa u) (wn := wX cyI cyZ cyT qa X1 ++ wM cyI cyZ qb M) (jmV (As := [.int (xs (x3 + 1).toNatClampNeg), .int (xs (x3 + 2).toNatClampNeg)]) (rest := []) ⟨hx, hb, hml, hown, hts⟩ (c_X7_rests l D cyI cyZ cyT qa H.size N (xs (x3 + 1).toNatClampNeg) (xs (x3 + 2).toNatClampNeg) X (r, X1) e1) (cwV 2 hts gL_law_X7_rests rfl rfl rfl (by decide +kernel) ⟨Nat.le_of_ble_eq_true rfl, Nat.le_of_ble_eq_true rfl⟩) hK (hP.sub (ws' := wX cyI cyZ cyT qa X) [0, 1, 2, 3, 4, 5, 6, 7, 8, 9, 10, 11, 12, 13, 14, 15, 16, 17, 18, 19, 20, 21, 22, 23, 24, 25, 26, 27, 28, 29, 30, 31, 32, 33, 34, 35, 36, 37, 38, 39, 40, 41, 42, 43, 44, 45, 46, 47, 48, 49, 50, 51, 52, 53, 54] rfl) (hD.sub (ws' := wX cyI cyZ cyT qa X) [0, 1, 2, 3, 4, 5, 6, 7, 8, 9, 10, 11, 12, 13, 14, 15, 16, 17, 18, 19, 20, 21, 22, 23, 24, 25, 26, 27, 28, 29, 30, 31, 32, 33, 34, 35, 36, 37, 38, 39, 40, 41, 42, 43, 44, 45, 46, 47, 48, 49, 50, 51, 52, 53, 54] (by decide) rfl) rfl 7 0 rfl rfl rfl hl.1 (Nat.le_of_ble_eq_true rfl) dL_law_797 ⟨Nat.le_of_ble_eq_true rfl, Nat.le_of_ble_eq_true rfl⟩) hP hD hS hA [0, 1, 2, 3, 4, 5, 6, 7, 8, 9, 10, 11, 12, 13, 14, 15, 16, 17, 18, 19, 20, 21, 22, 23, 24, 25, 26, 27, 28, 29, 30, 31, 32, 33, 34, 35, 36, 37, 38, 39, 40, 41, 42, 43, 44, 45, 46, 47, 48, 49, 50, 51, 52, 53, 54] [55, 56, 57, 58, 59, 60, 61, 62, 63, 64, 65, 66, 67, 68] [14, 15, 16, 17, 18, 19, 20, 21, 22, 23, 24, 25, 26, 27, 28, 29, 30, 31, 32, 33, 34, 35, 36, 37, 38, 39, 40, 41, 42, 43, 44, 45, 46, 47, 48, 49, 50, 51, 52, 53, 54, 55, 56, 57, 58, 59, 60, 61, 62, 63, 64, 65, 66, 67, 68, 0, 1, 2, 3, 4, 5, 6, 7, 8, 9, 10, 11, 12, 13] rfl rfl (by decide) (by decide) rfl (by decide) (fun H locs hP hD hS => ?_)
  refine lv_aload_n hx hb dL_law_800 rfl (lv_at hl 2 rfl) ?_
  refine lv_aload_n hx hb dL_law_801 rfl (lv_at hl 0 rfl) ?_
  refine lv_iload_n hx hb dL_law_802 rfl (lv_at hl 3 rfl) ?_
  refine lv_iconst (v := 1) hx hb dL_law_803 (by decide) ?_
  refine lv_iadd hx hb dL_law_804 ?_
  refine va_sld hx hb hX hbl hbA hS (hin 1 (by decide) (by decide)) dL_law_805 ?_
  refine lv_aload_n hx hb dL_law_806 rfl (lv_at hl 0 rfl) ?_
  refine lv_iload_n hx hb dL_law_807 rfl (lv_at hl 3 rfl) ?_
  refine lv_iconst (v := 2) hx hb dL_law_808 (by decide) ?_
  refine lv_iadd hx hb dL_law_809 ?_
  refine va_sld hx hb hX hbl hbA hS (hin 2 (by decide) (by decide)) dL_law_810 ?_
  refine jgi (w1 := fun u : Mo => wM cyI cyZ qb u) (wn := wX cyI cyZ cyT qa X1 ++ wM cyI cyZ qb M1) (jmV (As := [.int (xs (x3 + 1).toNatClampNeg), .int (xs (x3 + 2).toNatClampNeg)]) (rest := [.int (r, X1).1]) ⟨hx, hb, hml, hown, hts⟩ (c_X8_rests l D cyI cyZ cyT qb H.size N (xs (x3 + 1).toNatClampNeg) (xs (x3 + 2).toNatClampNeg) M (r, M1) e2) (cwV 2 hts gL_law_X8_rests rfl rfl rfl (by decide +kernel) ⟨Nat.le_of_ble_eq_true rfl, Nat.le_of_ble_eq_true rfl⟩) hK (hP.sub (ws' := wM cyI cyZ qb M) [55, 56, 57, 58, 59, 60, 61, 62, 63, 64, 65, 66, 67, 68] rfl) (hD.sub (ws' := wM cyI cyZ qb M) [55, 56, 57, 58, 59, 60, 61, 62, 63, 64, 65, 66, 67, 68] (by decide) rfl) rfl 8 0 rfl rfl rfl hl.1 (Nat.le_of_ble_eq_true rfl) dL_law_811 ⟨Nat.le_of_ble_eq_true rfl, Nat.le_of_ble_eq_true rfl⟩) hP hD hS hA [55, 56, 57, 58, 59, 60, 61, 62, 63, 64, 65, 66, 67, 68] [0, 1, 2, 3, 4, 5, 6, 7, 8, 9, 10, 11, 12, 13, 14, 15, 16, 17, 18, 19, 20, 21, 22, 23, 24, 25, 26, 27, 28, 29, 30, 31, 32, 33, 34, 35, 36, 37, 38, 39, 40, 41, 42, 43, 44, 45, 46, 47, 48, 49, 50, 51, 52, 53, 54] [0, 1, 2, 3, 4, 5, 6, 7, 8, 9, 10, 11, 12, 13, 14, 15, 16, 17, 18, 19, 20, 21, 22, 23, 24, 25, 26, 27, 28, 29, 30, 31, 32, 33, 34, 35, 36, 37, 38, 39, 40, 41, 42, 43, 44, 45, 46, 47, 48, 49, 50, 51, 52, 53, 54, 55, 56, 57, 58, 59, 60, 61, 62, 63, 64, 65, 66, 67, 68] rfl rfl (by decide) (by decide) rfl (by decide) (fun H locs hP hD hS => ?_)
  refine lv_icmp_eq (tgt := 1098) hx hb dL_law_814 (by decide) (fun _ => ?_) (fun c => absurd rfl c)
  exact hk X1 M1 hRel1 H locs hP hD hS ls hl
set_option maxHeartbeats 4000000 in
set_option maxRecDepth 100000 in
theorem law_fund {p : Program} {l : Launch} {e : Env} {s : State} {m : MethodId} {below : List Frame} {meth : Method} {c : Code} {D : va_G} {cyI cyZ cyT : ClassId} {adK adV qa qb : Nat → Nat} {b L : Nat} {xs : Nat → Int32} {N : Nat} {Rel : BX → Mo → Prop} (C0 : lw_At p s m meth c b L xs) (hK : jK D cyI cyZ cyT s) (hZ : jStr adK adV (fun q : Nat => s.heap.size ≤ q) s s.heap) (x3 : Int32) (hin : ∀ k : Int32, k ≤ 5 → ¬ k < 0 → vp_in (x3 + k) L) (hR : ∀ (X : BX) (M : Mo), Rel X M → ∃ (r : Int32) (M1 : Mo), f_X7_fund N X = some r ∧ f_X8_fund N M = some (r, M1) ∧ Rel X M1) (hk : ∀ (X : BX) (M : Mo), Rel X M → ∀ (H : Heap) (locs : List Loc), va_P D vwCl (wX cyI cyZ cyT qa X ++ wM cyI cyZ qb M) H → va_D (fun q : Nat => s.heap.size ≤ q) (wX cyI cyZ cyT qa X ++ wM cyI cyZ qb M) → va_S (fun q : Nat => s.heap.size ≤ q) s.heap H locs → ∀ (ls : Array Slot), lv_has ls 4 [(0, .ref b), (1, .ref (qa 0)), (2, .ref (qb 0)), (3, .int x3)] → W p l e room_1 s m #[Value.ref b] below meth c H locs 69 821 (lw_Z below #[Value.ref b] s) (F0 m 1098 ls [])) (X : BX) (M : Mo) (hRel : Rel X M) (H : Heap) (locs : List Loc) : va_P D vwCl (wX cyI cyZ cyT qa X ++ wM cyI cyZ qb M) H → va_D (fun q : Nat => s.heap.size ≤ q) (wX cyI cyZ cyT qa X ++ wM cyI cyZ qb M) → va_S (fun q : Nat => s.heap.size ≤ q) s.heap H locs → ∀ (ls : Array Slot), lv_has ls 4 [(0, .ref b), (1, .ref (qa 0)), (2, .ref (qb 0)), (3, .int x3)] → W p l e room_1 s m #[Value.ref b] below meth c H locs 69 821 (lw_Z below #[Value.ref b] s) (F0 m 819 ls []) := by
  obtain ⟨hx, hb, hr, hml, hown, hts, hX, hbl, hlocks, hgv⟩ := C0
  have hts := fun w h => hts w (wsL_law_in w h)
  have hA : ∀ q : Nat, s.heap.size ≤ q → (fun q : Nat => s.heap.size ≤ q) q := fun _ h => h
  have hbA : ¬ (fun q : Nat => s.heap.size ≤ q) b := Nat.not_le.mpr hbl
  intro hP hD hS ls hl
  obtain ⟨r, M1, e1, e2, hRel1⟩ := hR  X M hRel
  refine lv_aload_n hx hb dL_law_819 rfl (lv_at hl 1 rfl) ?_
  refine jki (jrV (As := []) (rest := []) ⟨hx, hb, hml, hown, hts⟩ (c_X7_fund l D cyI cyZ cyT qa N X r e1) (cwV 0 hts gL_law_X7_fund rfl rfl rfl (by decide +kernel) ⟨Nat.le_of_ble_eq_true rfl, Nat.le_of_ble_eq_true rfl⟩) hK (hP.sub (ws' := wX cyI cyZ cyT qa X) [0, 1, 2, 3, 4, 5, 6, 7, 8, 9, 10, 11, 12, 13, 14, 15, 16, 17, 18, 19, 20, 21, 22, 23, 24, 25, 26, 27, 28, 29, 30, 31, 32, 33, 34, 35, 36, 37, 38, 39, 40, 41, 42, 43, 44, 45, 46, 47, 48, 49, 50, 51, 52, 53, 54] rfl) rfl 7 0 rfl rfl rfl hl.1 (Nat.le_of_ble_eq_true rfl) dL_law_820 ⟨Nat.le_of_ble_eq_true rfl, Nat.le_of_ble_eq_true rfl⟩) ?_
  refine lv_aload_n hx hb dL_law_823 rfl (lv_at hl 2 rfl) ?_
  refine jgi (w1 := fun u : Mo => wM cyI cyZ qb u) (wn := wX cyI cyZ cyT qa X ++ wM cyI cyZ qb M1) (jmV (As := []) (rest := [.int r]) ⟨hx, hb, hml, hown, hts⟩ (c_X8_fund l D cyI cyZ cyT qb H.size N M (r, M1) e2) (cwV 0 hts gL_law_X8_fund rfl rfl rfl (by decide +kernel) ⟨Nat.le_of_ble_eq_true rfl, Nat.le_of_ble_eq_true rfl⟩) hK (hP.sub (ws' := wM cyI cyZ qb M) [55, 56, 57, 58, 59, 60, 61, 62, 63, 64, 65, 66, 67, 68] rfl) (hD.sub (ws' := wM cyI cyZ qb M) [55, 56, 57, 58, 59, 60, 61, 62, 63, 64, 65, 66, 67, 68] (by decide) rfl) rfl 8 0 rfl rfl rfl hl.1 (Nat.le_of_ble_eq_true rfl) dL_law_824 ⟨Nat.le_of_ble_eq_true rfl, Nat.le_of_ble_eq_true rfl⟩) hP hD hS hA [55, 56, 57, 58, 59, 60, 61, 62, 63, 64, 65, 66, 67, 68] [0, 1, 2, 3, 4, 5, 6, 7, 8, 9, 10, 11, 12, 13, 14, 15, 16, 17, 18, 19, 20, 21, 22, 23, 24, 25, 26, 27, 28, 29, 30, 31, 32, 33, 34, 35, 36, 37, 38, 39, 40, 41, 42, 43, 44, 45, 46, 47, 48, 49, 50, 51, 52, 53, 54] [0, 1, 2, 3, 4, 5, 6, 7, 8, 9, 10, 11, 12, 13, 14, 15, 16, 17, 18, 19, 20, 21, 22, 23, 24, 25, 26, 27, 28, 29, 30, 31, 32, 33, 34, 35, 36, 37, 38, 39, 40, 41, 42, 43, 44, 45, 46, 47, 48, 49, 50, 51, 52, 53, 54, 55, 56, 57, 58, 59, 60, 61, 62, 63, 64, 65, 66, 67, 68] rfl rfl (by decide) (by decide) rfl (by decide) (fun H locs hP hD hS => ?_)
  refine lv_icmp_eq (tgt := 1098) hx hb dL_law_827 (by decide) (fun _ => ?_) (fun c => absurd rfl c)
  exact hk X M1 hRel1 H locs hP hD hS ls hl
set_option maxHeartbeats 4000000 in
set_option maxRecDepth 100000 in
theorem law_rats {p : Program} {l : Launch} {e : Env} {s : State} {m : MethodId} {below : List Frame} {meth : Method} {c : Code} {D : va_G} {cyI cyZ cyT : ClassId} {adK adV qa qb : Nat → Nat} {b L : Nat} {xs : Nat → Int32} {N : Nat} {Rel : BX → Mo → Prop} (C0 : lw_At p s m meth c b L xs) (hK : jK D cyI cyZ cyT s) (hZ : jStr adK adV (fun q : Nat => s.heap.size ≤ q) s s.heap) (x3 : Int32) (hin : ∀ k : Int32, k ≤ 5 → ¬ k < 0 → vp_in (x3 + k) L) (hR : ∀ (a1 : Int32) (X : BX) (M : Mo), Rel X M → ∃ (r : Int32) (M1 : Mo), f_X7_rats N a1 X = some r ∧ f_X8_rats N a1 M = some (r, M1) ∧ Rel X M1) (hk : ∀ (X : BX) (M : Mo), Rel X M → ∀ (H : Heap) (locs : List Loc), va_P D vwCl (wX cyI cyZ cyT qa X ++ wM cyI cyZ qb M) H → va_D (fun q : Nat => s.heap.size ≤ q) (wX cyI cyZ cyT qa X ++ wM cyI cyZ qb M) → va_S (fun q : Nat => s.heap.size ≤ q) s.heap H locs → ∀ (ls : Array Slot), lv_has ls 4 [(0, .ref b), (1, .ref (qa 0)), (2, .ref (qb 0)), (3, .int x3)] → W p l e room_1 s m #[Value.ref b] below meth c H locs 69 821 (lw_Z below #[Value.ref b] s) (F0 m 1098 ls [])) (X : BX) (M : Mo) (hRel : Rel X M) (H : Heap) (locs : List Loc) : va_P D vwCl (wX cyI cyZ cyT qa X ++ wM cyI cyZ qb M) H → va_D (fun q : Nat => s.heap.size ≤ q) (wX cyI cyZ cyT qa X ++ wM cyI cyZ qb M) → va_S (fun q : Nat => s.heap.size ≤ q) s.heap H locs → ∀ (ls : Array Slot), lv_has ls 4 [(0, .ref b), (1, .ref (qa 0)), (2, .ref (qb 0)), (3, .int x3)] → W p l e room_1 s m #[Value.ref b] below meth c H locs 69 821 (lw_Z below #[Value.ref b] s) (F0 m 832 ls []) := by
  obtain ⟨hx, hb, hr, hml, hown, hts, hX, hbl, hlocks, hgv⟩ := C0
  have hts := fun w h => hts w (wsL_law_in w h)
  have hA : ∀ q : Nat, s.heap.size ≤ q → (fun q : Nat => s.heap.size ≤ q) q := fun _ h => h
  have hbA : ¬ (fun q : Nat => s.heap.size ≤ q) b := Nat.not_le.mpr hbl
  intro hP hD hS ls hl
  obtain ⟨r, M1, e1, e2, hRel1⟩ := hR (xs (x3 + 1).toNatClampNeg) X M hRel
  refine lv_aload_n hx hb dL_law_832 rfl (lv_at hl 1 rfl) ?_
  refine lv_aload_n hx hb dL_law_833 rfl (lv_at hl 0 rfl) ?_
  refine lv_iload_n hx hb dL_law_834 rfl (lv_at hl 3 rfl) ?_
  refine lv_iconst (v := 1) hx hb dL_law_835 (by decide) ?_
  refine lv_iadd hx hb dL_law_836 ?_
  refine va_sld hx hb hX hbl hbA hS (hin 1 (by decide) (by decide)) dL_law_837 ?_
  refine jki (jrV (As := [.int (xs (x3 + 1).toNatClampNeg)]) (rest := []) ⟨hx, hb, hml, hown, hts⟩ (c_X7_rats l D cyI cyZ cyT qa N (xs (x3 + 1).toNatClampNeg) X r e1) (cwV 1 hts gL_law_X7_rats rfl rfl rfl (by decide +kernel) ⟨Nat.le_of_ble_eq_true rfl, Nat.le_of_ble_eq_true rfl⟩) hK (hP.sub (ws' := wX cyI cyZ cyT qa X) [0, 1, 2, 3, 4, 5, 6, 7, 8, 9, 10, 11, 12, 13, 14, 15, 16, 17, 18, 19, 20, 21, 22, 23, 24, 25, 26, 27, 28, 29, 30, 31, 32, 33, 34, 35, 36, 37, 38, 39, 40, 41, 42, 43, 44, 45, 46, 47, 48, 49, 50, 51, 52, 53, 54] rfl) rfl 7 0 rfl rfl rfl hl.1 (Nat.le_of_ble_eq_true rfl) dL_law_838 ⟨Nat.le_of_ble_eq_true rfl, Nat.le_of_ble_eq_true rfl⟩) ?_
  refine lv_aload_n hx hb dL_law_841 rfl (lv_at hl 2 rfl) ?_
  refine lv_aload_n hx hb dL_law_842 rfl (lv_at hl 0 rfl) ?_
  refine lv_iload_n hx hb dL_law_843 rfl (lv_at hl 3 rfl) ?_
  refine lv_iconst (v := 1) hx hb dL_law_844 (by decide) ?_
  refine lv_iadd hx hb dL_law_845 ?_
  refine va_sld hx hb hX hbl hbA hS (hin 1 (by decide) (by decide)) dL_law_846 ?_
  refine jgi (w1 := fun u : Mo => wM cyI cyZ qb u) (wn := wX cyI cyZ cyT qa X ++ wM cyI cyZ qb M1) (jmV (As := [.int (xs (x3 + 1).toNatClampNeg)]) (rest := [.int r]) ⟨hx, hb, hml, hown, hts⟩ (c_X8_rats l D cyI cyZ cyT qb H.size N (xs (x3 + 1).toNatClampNeg) M (r, M1) e2) (cwV 1 hts gL_law_X8_rats rfl rfl rfl (by decide +kernel) ⟨Nat.le_of_ble_eq_true rfl, Nat.le_of_ble_eq_true rfl⟩) hK (hP.sub (ws' := wM cyI cyZ qb M) [55, 56, 57, 58, 59, 60, 61, 62, 63, 64, 65, 66, 67, 68] rfl) (hD.sub (ws' := wM cyI cyZ qb M) [55, 56, 57, 58, 59, 60, 61, 62, 63, 64, 65, 66, 67, 68] (by decide) rfl) rfl 8 0 rfl rfl rfl hl.1 (Nat.le_of_ble_eq_true rfl) dL_law_847 ⟨Nat.le_of_ble_eq_true rfl, Nat.le_of_ble_eq_true rfl⟩) hP hD hS hA [55, 56, 57, 58, 59, 60, 61, 62, 63, 64, 65, 66, 67, 68] [0, 1, 2, 3, 4, 5, 6, 7, 8, 9, 10, 11, 12, 13, 14, 15, 16, 17, 18, 19, 20, 21, 22, 23, 24, 25, 26, 27, 28, 29, 30, 31, 32, 33, 34, 35, 36, 37, 38, 39, 40, 41, 42, 43, 44, 45, 46, 47, 48, 49, 50, 51, 52, 53, 54] [0, 1, 2, 3, 4, 5, 6, 7, 8, 9, 10, 11, 12, 13, 14, 15, 16, 17, 18, 19, 20, 21, 22, 23, 24, 25, 26, 27, 28, 29, 30, 31, 32, 33, 34, 35, 36, 37, 38, 39, 40, 41, 42, 43, 44, 45, 46, 47, 48, 49, 50, 51, 52, 53, 54, 55, 56, 57, 58, 59, 60, 61, 62, 63, 64, 65, 66, 67, 68] rfl rfl (by decide) (by decide) rfl (by decide) (fun H locs hP hD hS => ?_)
  refine lv_icmp_eq (tgt := 1098) hx hb dL_law_850 (by decide) (fun _ => ?_) (fun c => absurd rfl c)
  exact hk X M1 hRel1 H locs hP hD hS ls hl
set_option maxHeartbeats 4000000 in
set_option maxRecDepth 100000 in
theorem law_shoe {p : Program} {l : Launch} {e : Env} {s : State} {m : MethodId} {below : List Frame} {meth : Method} {c : Code} {D : va_G} {cyI cyZ cyT : ClassId} {adK adV qa qb : Nat → Nat} {b L : Nat} {xs : Nat → Int32} {N : Nat} {Rel : BX → Mo → Prop} (C0 : lw_At p s m meth c b L xs) (hK : jK D cyI cyZ cyT s) (hZ : jStr adK adV (fun q : Nat => s.heap.size ≤ q) s s.heap) (x3 : Int32) (hin : ∀ k : Int32, k ≤ 5 → ¬ k < 0 → vp_in (x3 + k) L) (hR : ∀ (a1 a2 a3 a4 a5 : Int32) (X : BX) (M : Mo), Rel X M → ∃ (r : Int64) (M1 : Mo), f_X7_shoe N a1 a2 a3 a4 a5 X = some r ∧ f_X8_shoe N a1 a2 a3 a4 a5 M = some (r, M1) ∧ Rel X M1) (hk : ∀ (X : BX) (M : Mo), Rel X M → ∀ (H : Heap) (locs : List Loc), va_P D vwCl (wX cyI cyZ cyT qa X ++ wM cyI cyZ qb M) H → va_D (fun q : Nat => s.heap.size ≤ q) (wX cyI cyZ cyT qa X ++ wM cyI cyZ qb M) → va_S (fun q : Nat => s.heap.size ≤ q) s.heap H locs → ∀ (ls : Array Slot), lv_has ls 4 [(0, .ref b), (1, .ref (qa 0)), (2, .ref (qb 0)), (3, .int x3)] → W p l e room_1 s m #[Value.ref b] below meth c H locs 69 821 (lw_Z below #[Value.ref b] s) (F0 m 1098 ls [])) (X : BX) (M : Mo) (hRel : Rel X M) (H : Heap) (locs : List Loc) : va_P D vwCl (wX cyI cyZ cyT qa X ++ wM cyI cyZ qb M) H → va_D (fun q : Nat => s.heap.size ≤ q) (wX cyI cyZ cyT qa X ++ wM cyI cyZ qb M) → va_S (fun q : Nat => s.heap.size ≤ q) s.heap H locs → ∀ (ls : Array Slot), lv_has ls 4 [(0, .ref b), (1, .ref (qa 0)), (2, .ref (qb 0)), (3, .int x3)] → W p l e room_1 s m #[Value.ref b] below meth c H locs 69 821 (lw_Z below #[Value.ref b] s) (F0 m 855 ls []) := by
  obtain ⟨hx, hb, hr, hml, hown, hts, hX, hbl, hlocks, hgv⟩ := C0
  have hts := fun w h => hts w (wsL_law_in w h)
  have hA : ∀ q : Nat, s.heap.size ≤ q → (fun q : Nat => s.heap.size ≤ q) q := fun _ h => h
  have hbA : ¬ (fun q : Nat => s.heap.size ≤ q) b := Nat.not_le.mpr hbl
  intro hP hD hS ls hl
  obtain ⟨r, M1, e1, e2, hRel1⟩ := hR (xs (x3 + 1).toNatClampNeg) (xs (x3 + 2).toNatClampNeg) (xs (x3 + 3).toNatClampNeg) (xs (x3 + 4).toNatClampNeg) (xs (x3 + 5).toNatClampNeg) X M hRel
  refine lv_aload_n hx hb dL_law_855 rfl (lv_at hl 1 rfl) ?_
  refine lv_aload_n hx hb dL_law_856 rfl (lv_at hl 0 rfl) ?_
  refine lv_iload_n hx hb dL_law_857 rfl (lv_at hl 3 rfl) ?_
  refine lv_iconst (v := 1) hx hb dL_law_858 (by decide) ?_
  refine lv_iadd hx hb dL_law_859 ?_
  refine va_sld hx hb hX hbl hbA hS (hin 1 (by decide) (by decide)) dL_law_860 ?_
  refine lv_aload_n hx hb dL_law_861 rfl (lv_at hl 0 rfl) ?_
  refine lv_iload_n hx hb dL_law_862 rfl (lv_at hl 3 rfl) ?_
  refine lv_iconst (v := 2) hx hb dL_law_863 (by decide) ?_
  refine lv_iadd hx hb dL_law_864 ?_
  refine va_sld hx hb hX hbl hbA hS (hin 2 (by decide) (by decide)) dL_law_865 ?_
  refine lv_aload_n hx hb dL_law_866 rfl (lv_at hl 0 rfl) ?_
  refine lv_iload_n hx hb dL_law_867 rfl (lv_at hl 3 rfl) ?_
  refine lv_iconst (v := 3) hx hb dL_law_868 (by decide) ?_
  refine lv_iadd hx hb dL_law_869 ?_
  refine va_sld hx hb hX hbl hbA hS (hin 3 (by decide) (by decide)) dL_law_870 ?_
  refine lv_aload_n hx hb dL_law_871 rfl (lv_at hl 0 rfl) ?_
  refine lv_iload_n hx hb dL_law_872 rfl (lv_at hl 3 rfl) ?_
  refine lv_iconst (v := 4) hx hb dL_law_873 (by decide) ?_
  refine lv_iadd hx hb dL_law_874 ?_
  refine va_sld hx hb hX hbl hbA hS (hin 4 (by decide) (by decide)) dL_law_875 ?_
  refine lv_aload_n hx hb dL_law_876 rfl (lv_at hl 0 rfl) ?_
  refine lv_iload_n hx hb dL_law_877 rfl (lv_at hl 3 rfl) ?_
  refine lv_iconst (v := 5) hx hb dL_law_878 (by decide) ?_
  refine lv_iadd hx hb dL_law_879 ?_
  refine va_sld hx hb hX hbl hbA hS (hin 5 (by decide) (by decide)) dL_law_880 ?_
  refine jkl (jrV (As := [.int (xs (x3 + 1).toNatClampNeg), .int (xs (x3 + 2).toNatClampNeg), .int (xs (x3 + 3).toNatClampNeg), .int (xs (x3 + 4).toNatClampNeg), .int (xs (x3 + 5).toNatClampNeg)]) (rest := []) ⟨hx, hb, hml, hown, hts⟩ (c_X7_shoe l D cyI cyZ cyT qa N (xs (x3 + 1).toNatClampNeg) (xs (x3 + 2).toNatClampNeg) (xs (x3 + 3).toNatClampNeg) (xs (x3 + 4).toNatClampNeg) (xs (x3 + 5).toNatClampNeg) X r e1) (cwV 5 hts gL_law_X7_shoe rfl rfl rfl (by decide +kernel) ⟨Nat.le_of_ble_eq_true rfl, Nat.le_of_ble_eq_true rfl⟩) hK (hP.sub (ws' := wX cyI cyZ cyT qa X) [0, 1, 2, 3, 4, 5, 6, 7, 8, 9, 10, 11, 12, 13, 14, 15, 16, 17, 18, 19, 20, 21, 22, 23, 24, 25, 26, 27, 28, 29, 30, 31, 32, 33, 34, 35, 36, 37, 38, 39, 40, 41, 42, 43, 44, 45, 46, 47, 48, 49, 50, 51, 52, 53, 54] rfl) rfl 7 0 rfl rfl rfl hl.1 (Nat.le_of_ble_eq_true rfl) dL_law_881 ⟨Nat.le_of_ble_eq_true rfl, Nat.le_of_ble_eq_true rfl⟩) ?_
  refine lv_aload_n hx hb dL_law_884 rfl (lv_at hl 2 rfl) ?_
  refine lv_aload_n hx hb dL_law_885 rfl (lv_at hl 0 rfl) ?_
  refine lv_iload_n hx hb dL_law_886 rfl (lv_at hl 3 rfl) ?_
  refine lv_iconst (v := 1) hx hb dL_law_887 (by decide) ?_
  refine lv_iadd hx hb dL_law_888 ?_
  refine va_sld hx hb hX hbl hbA hS (hin 1 (by decide) (by decide)) dL_law_889 ?_
  refine lv_aload_n hx hb dL_law_890 rfl (lv_at hl 0 rfl) ?_
  refine lv_iload_n hx hb dL_law_891 rfl (lv_at hl 3 rfl) ?_
  refine lv_iconst (v := 2) hx hb dL_law_892 (by decide) ?_
  refine lv_iadd hx hb dL_law_893 ?_
  refine va_sld hx hb hX hbl hbA hS (hin 2 (by decide) (by decide)) dL_law_894 ?_
  refine lv_aload_n hx hb dL_law_895 rfl (lv_at hl 0 rfl) ?_
  refine lv_iload_n hx hb dL_law_896 rfl (lv_at hl 3 rfl) ?_
  refine lv_iconst (v := 3) hx hb dL_law_897 (by decide) ?_
  refine lv_iadd hx hb dL_law_898 ?_
  refine va_sld hx hb hX hbl hbA hS (hin 3 (by decide) (by decide)) dL_law_899 ?_
  refine lv_aload_n hx hb dL_law_900 rfl (lv_at hl 0 rfl) ?_
  refine lv_iload_n hx hb dL_law_901 rfl (lv_at hl 3 rfl) ?_
  refine lv_iconst (v := 4) hx hb dL_law_902 (by decide) ?_
  refine lv_iadd hx hb dL_law_903 ?_
  refine va_sld hx hb hX hbl hbA hS (hin 4 (by decide) (by decide)) dL_law_904 ?_
  refine lv_aload_n hx hb dL_law_905 rfl (lv_at hl 0 rfl) ?_
  refine lv_iload_n hx hb dL_law_906 rfl (lv_at hl 3 rfl) ?_
  refine lv_iconst (v := 5) hx hb dL_law_907 (by decide) ?_
  refine lv_iadd hx hb dL_law_908 ?_
  refine va_sld hx hb hX hbl hbA hS (hin 5 (by decide) (by decide)) dL_law_909 ?_
  refine jgl (w1 := fun u : Mo => wM cyI cyZ qb u) (wn := wX cyI cyZ cyT qa X ++ wM cyI cyZ qb M1) (jmV (As := [.int (xs (x3 + 1).toNatClampNeg), .int (xs (x3 + 2).toNatClampNeg), .int (xs (x3 + 3).toNatClampNeg), .int (xs (x3 + 4).toNatClampNeg), .int (xs (x3 + 5).toNatClampNeg)]) (rest := [.long r]) ⟨hx, hb, hml, hown, hts⟩ (c_X8_shoe l D cyI cyZ cyT qb H.size N (xs (x3 + 1).toNatClampNeg) (xs (x3 + 2).toNatClampNeg) (xs (x3 + 3).toNatClampNeg) (xs (x3 + 4).toNatClampNeg) (xs (x3 + 5).toNatClampNeg) M (r, M1) e2) (cwV 5 hts gL_law_X8_shoe rfl rfl rfl (by decide +kernel) ⟨Nat.le_of_ble_eq_true rfl, Nat.le_of_ble_eq_true rfl⟩) hK (hP.sub (ws' := wM cyI cyZ qb M) [55, 56, 57, 58, 59, 60, 61, 62, 63, 64, 65, 66, 67, 68] rfl) (hD.sub (ws' := wM cyI cyZ qb M) [55, 56, 57, 58, 59, 60, 61, 62, 63, 64, 65, 66, 67, 68] (by decide) rfl) rfl 8 0 rfl rfl rfl hl.1 (Nat.le_of_ble_eq_true rfl) dL_law_910 ⟨Nat.le_of_ble_eq_true rfl, Nat.le_of_ble_eq_true rfl⟩) hP hD hS hA [55, 56, 57, 58, 59, 60, 61, 62, 63, 64, 65, 66, 67, 68] [0, 1, 2, 3, 4, 5, 6, 7, 8, 9, 10, 11, 12, 13, 14, 15, 16, 17, 18, 19, 20, 21, 22, 23, 24, 25, 26, 27, 28, 29, 30, 31, 32, 33, 34, 35, 36, 37, 38, 39, 40, 41, 42, 43, 44, 45, 46, 47, 48, 49, 50, 51, 52, 53, 54] [0, 1, 2, 3, 4, 5, 6, 7, 8, 9, 10, 11, 12, 13, 14, 15, 16, 17, 18, 19, 20, 21, 22, 23, 24, 25, 26, 27, 28, 29, 30, 31, 32, 33, 34, 35, 36, 37, 38, 39, 40, 41, 42, 43, 44, 45, 46, 47, 48, 49, 50, 51, 52, 53, 54, 55, 56, 57, 58, 59, 60, 61, 62, 63, 64, 65, 66, 67, 68] rfl rfl (by decide) (by decide) rfl (by decide) (fun H locs hP hD hS => ?_)
  refine W.lcmp hx hb dL_law_913 ?_
  refine lv_if_eq (tgt := 1098) hx hb dL_law_914 (by decide) (fun _ => ?_) (fun c => absurd ((lg_cmp_eq _ _).mpr rfl) c)
  exact hk X M1 hRel1 H locs hP hD hS ls hl
set_option maxHeartbeats 4000000 in
set_option maxRecDepth 100000 in
theorem law_callOff {p : Program} {l : Launch} {e : Env} {s : State} {m : MethodId} {below : List Frame} {meth : Method} {c : Code} {D : va_G} {cyI cyZ cyT : ClassId} {adK adV qa qb : Nat → Nat} {b L : Nat} {xs : Nat → Int32} {N : Nat} {Rel : BX → Mo → Prop} (C0 : lw_At p s m meth c b L xs) (hK : jK D cyI cyZ cyT s) (hZ : jStr adK adV (fun q : Nat => s.heap.size ≤ q) s s.heap) (x3 : Int32) (hin : ∀ k : Int32, k ≤ 5 → ¬ k < 0 → vp_in (x3 + k) L) (hR : ∀ (a1 a2 a3 a4 a5 : Int32) (X : BX) (M : Mo), Rel X M → ∃ (r : Int64) (M1 : Mo), f_X7_callOff N a1 a2 a3 a4 a5 X = some r ∧ f_X8_callOff N a1 a2 a3 a4 a5 M = some (r, M1) ∧ Rel X M1) (hk : ∀ (X : BX) (M : Mo), Rel X M → ∀ (H : Heap) (locs : List Loc), va_P D vwCl (wX cyI cyZ cyT qa X ++ wM cyI cyZ qb M) H → va_D (fun q : Nat => s.heap.size ≤ q) (wX cyI cyZ cyT qa X ++ wM cyI cyZ qb M) → va_S (fun q : Nat => s.heap.size ≤ q) s.heap H locs → ∀ (ls : Array Slot), lv_has ls 4 [(0, .ref b), (1, .ref (qa 0)), (2, .ref (qb 0)), (3, .int x3)] → W p l e room_1 s m #[Value.ref b] below meth c H locs 69 821 (lw_Z below #[Value.ref b] s) (F0 m 1098 ls [])) (X : BX) (M : Mo) (hRel : Rel X M) (H : Heap) (locs : List Loc) : va_P D vwCl (wX cyI cyZ cyT qa X ++ wM cyI cyZ qb M) H → va_D (fun q : Nat => s.heap.size ≤ q) (wX cyI cyZ cyT qa X ++ wM cyI cyZ qb M) → va_S (fun q : Nat => s.heap.size ≤ q) s.heap H locs → ∀ (ls : Array Slot), lv_has ls 4 [(0, .ref b), (1, .ref (qa 0)), (2, .ref (qb 0)), (3, .int x3)] → W p l e room_1 s m #[Value.ref b] below meth c H locs 69 821 (lw_Z below #[Value.ref b] s) (F0 m 919 ls []) := by
  obtain ⟨hx, hb, hr, hml, hown, hts, hX, hbl, hlocks, hgv⟩ := C0
  have hts := fun w h => hts w (wsL_law_in w h)
  have hA : ∀ q : Nat, s.heap.size ≤ q → (fun q : Nat => s.heap.size ≤ q) q := fun _ h => h
  have hbA : ¬ (fun q : Nat => s.heap.size ≤ q) b := Nat.not_le.mpr hbl
  intro hP hD hS ls hl
  obtain ⟨r, M1, e1, e2, hRel1⟩ := hR (xs (x3 + 1).toNatClampNeg) (xs (x3 + 2).toNatClampNeg) (xs (x3 + 3).toNatClampNeg) (xs (x3 + 4).toNatClampNeg) (xs (x3 + 5).toNatClampNeg) X M hRel
  refine lv_aload_n hx hb dL_law_919 rfl (lv_at hl 1 rfl) ?_
  refine lv_aload_n hx hb dL_law_920 rfl (lv_at hl 0 rfl) ?_
  refine lv_iload_n hx hb dL_law_921 rfl (lv_at hl 3 rfl) ?_
  refine lv_iconst (v := 1) hx hb dL_law_922 (by decide) ?_
  refine lv_iadd hx hb dL_law_923 ?_
  refine va_sld hx hb hX hbl hbA hS (hin 1 (by decide) (by decide)) dL_law_924 ?_
  refine lv_aload_n hx hb dL_law_925 rfl (lv_at hl 0 rfl) ?_
  refine lv_iload_n hx hb dL_law_926 rfl (lv_at hl 3 rfl) ?_
  refine lv_iconst (v := 2) hx hb dL_law_927 (by decide) ?_
  refine lv_iadd hx hb dL_law_928 ?_
  refine va_sld hx hb hX hbl hbA hS (hin 2 (by decide) (by decide)) dL_law_929 ?_
  refine lv_aload_n hx hb dL_law_930 rfl (lv_at hl 0 rfl) ?_
  refine lv_iload_n hx hb dL_law_931 rfl (lv_at hl 3 rfl) ?_
  refine lv_iconst (v := 3) hx hb dL_law_932 (by decide) ?_
  refine lv_iadd hx hb dL_law_933 ?_
  refine va_sld hx hb hX hbl hbA hS (hin 3 (by decide) (by decide)) dL_law_934 ?_
  refine lv_aload_n hx hb dL_law_935 rfl (lv_at hl 0 rfl) ?_
  refine lv_iload_n hx hb dL_law_936 rfl (lv_at hl 3 rfl) ?_
  refine lv_iconst (v := 4) hx hb dL_law_937 (by decide) ?_
  refine lv_iadd hx hb dL_law_938 ?_
  refine va_sld hx hb hX hbl hbA hS (hin 4 (by decide) (by decide)) dL_law_939 ?_
  refine lv_aload_n hx hb dL_law_940 rfl (lv_at hl 0 rfl) ?_
  refine lv_iload_n hx hb dL_law_941 rfl (lv_at hl 3 rfl) ?_
  refine lv_iconst (v := 5) hx hb dL_law_942 (by decide) ?_
  refine lv_iadd hx hb dL_law_943 ?_
  refine va_sld hx hb hX hbl hbA hS (hin 5 (by decide) (by decide)) dL_law_944 ?_
  refine jkl (jrV (As := [.int (xs (x3 + 1).toNatClampNeg), .int (xs (x3 + 2).toNatClampNeg), .int (xs (x3 + 3).toNatClampNeg), .int (xs (x3 + 4).toNatClampNeg), .int (xs (x3 + 5).toNatClampNeg)]) (rest := []) ⟨hx, hb, hml, hown, hts⟩ (c_X7_callOff l D cyI cyZ cyT qa N (xs (x3 + 1).toNatClampNeg) (xs (x3 + 2).toNatClampNeg) (xs (x3 + 3).toNatClampNeg) (xs (x3 + 4).toNatClampNeg) (xs (x3 + 5).toNatClampNeg) X r e1) (cwV 5 hts gL_law_X7_callOff rfl rfl rfl (by decide +kernel) ⟨Nat.le_of_ble_eq_true rfl, Nat.le_of_ble_eq_true rfl⟩) hK (hP.sub (ws' := wX cyI cyZ cyT qa X) [0, 1, 2, 3, 4, 5, 6, 7, 8, 9, 10, 11, 12, 13, 14, 15, 16, 17, 18, 19, 20, 21, 22, 23, 24, 25, 26, 27, 28, 29, 30, 31, 32, 33, 34, 35, 36, 37, 38, 39, 40, 41, 42, 43, 44, 45, 46, 47, 48, 49, 50, 51, 52, 53, 54] rfl) rfl 7 0 rfl rfl rfl hl.1 (Nat.le_of_ble_eq_true rfl) dL_law_945 ⟨Nat.le_of_ble_eq_true rfl, Nat.le_of_ble_eq_true rfl⟩) ?_
  refine lv_aload_n hx hb dL_law_948 rfl (lv_at hl 2 rfl) ?_
  refine lv_aload_n hx hb dL_law_949 rfl (lv_at hl 0 rfl) ?_
  refine lv_iload_n hx hb dL_law_950 rfl (lv_at hl 3 rfl) ?_
  refine lv_iconst (v := 1) hx hb dL_law_951 (by decide) ?_
  refine lv_iadd hx hb dL_law_952 ?_
  refine va_sld hx hb hX hbl hbA hS (hin 1 (by decide) (by decide)) dL_law_953 ?_
  refine lv_aload_n hx hb dL_law_954 rfl (lv_at hl 0 rfl) ?_
  refine lv_iload_n hx hb dL_law_955 rfl (lv_at hl 3 rfl) ?_
  refine lv_iconst (v := 2) hx hb dL_law_956 (by decide) ?_
  refine lv_iadd hx hb dL_law_957 ?_
  refine va_sld hx hb hX hbl hbA hS (hin 2 (by decide) (by decide)) dL_law_958 ?_
  refine lv_aload_n hx hb dL_law_959 rfl (lv_at hl 0 rfl) ?_
  refine lv_iload_n hx hb dL_law_960 rfl (lv_at hl 3 rfl) ?_
  refine lv_iconst (v := 3) hx hb dL_law_961 (by decide) ?_
  refine lv_iadd hx hb dL_law_962 ?_
  refine va_sld hx hb hX hbl hbA hS (hin 3 (by decide) (by decide)) dL_law_963 ?_
  refine lv_aload_n hx hb dL_law_964 rfl (lv_at hl 0 rfl) ?_
  refine lv_iload_n hx hb dL_law_965 rfl (lv_at hl 3 rfl) ?_
  refine lv_iconst (v := 4) hx hb dL_law_966 (by decide) ?_
  refine lv_iadd hx hb dL_law_967 ?_
  refine va_sld hx hb hX hbl hbA hS (hin 4 (by decide) (by decide)) dL_law_968 ?_
  refine lv_aload_n hx hb dL_law_969 rfl (lv_at hl 0 rfl) ?_
  refine lv_iload_n hx hb dL_law_970 rfl (lv_at hl 3 rfl) ?_
  refine lv_iconst (v := 5) hx hb dL_law_971 (by decide) ?_
  refine lv_iadd hx hb dL_law_972 ?_
  refine va_sld hx hb hX hbl hbA hS (hin 5 (by decide) (by decide)) dL_law_973 ?_
  refine jgl (w1 := fun u : Mo => wM cyI cyZ qb u) (wn := wX cyI cyZ cyT qa X ++ wM cyI cyZ qb M1) (jmV (As := [.int (xs (x3 + 1).toNatClampNeg), .int (xs (x3 + 2).toNatClampNeg), .int (xs (x3 + 3).toNatClampNeg), .int (xs (x3 + 4).toNatClampNeg), .int (xs (x3 + 5).toNatClampNeg)]) (rest := [.long r]) ⟨hx, hb, hml, hown, hts⟩ (c_X8_callOff l D cyI cyZ cyT qb H.size N (xs (x3 + 1).toNatClampNeg) (xs (x3 + 2).toNatClampNeg) (xs (x3 + 3).toNatClampNeg) (xs (x3 + 4).toNatClampNeg) (xs (x3 + 5).toNatClampNeg) M (r, M1) e2) (cwV 5 hts gL_law_X8_callOff rfl rfl rfl (by decide +kernel) ⟨Nat.le_of_ble_eq_true rfl, Nat.le_of_ble_eq_true rfl⟩) hK (hP.sub (ws' := wM cyI cyZ qb M) [55, 56, 57, 58, 59, 60, 61, 62, 63, 64, 65, 66, 67, 68] rfl) (hD.sub (ws' := wM cyI cyZ qb M) [55, 56, 57, 58, 59, 60, 61, 62, 63, 64, 65, 66, 67, 68] (by decide) rfl) rfl 8 0 rfl rfl rfl hl.1 (Nat.le_of_ble_eq_true rfl) dL_law_974 ⟨Nat.le_of_ble_eq_true rfl, Nat.le_of_ble_eq_true rfl⟩) hP hD hS hA [55, 56, 57, 58, 59, 60, 61, 62, 63, 64, 65, 66, 67, 68] [0, 1, 2, 3, 4, 5, 6, 7, 8, 9, 10, 11, 12, 13, 14, 15, 16, 17, 18, 19, 20, 21, 22, 23, 24, 25, 26, 27, 28, 29, 30, 31, 32, 33, 34, 35, 36, 37, 38, 39, 40, 41, 42, 43, 44, 45, 46, 47, 48, 49, 50, 51, 52, 53, 54] [0, 1, 2, 3, 4, 5, 6, 7, 8, 9, 10, 11, 12, 13, 14, 15, 16, 17, 18, 19, 20, 21, 22, 23, 24, 25, 26, 27, 28, 29, 30, 31, 32, 33, 34, 35, 36, 37, 38, 39, 40, 41, 42, 43, 44, 45, 46, 47, 48, 49, 50, 51, 52, 53, 54, 55, 56, 57, 58, 59, 60, 61, 62, 63, 64, 65, 66, 67, 68] rfl rfl (by decide) (by decide) rfl (by decide) (fun H locs hP hD hS => ?_)
  refine W.lcmp hx hb dL_law_977 ?_
  refine lv_if_eq (tgt := 1098) hx hb dL_law_978 (by decide) (fun _ => ?_) (fun c => absurd ((lg_cmp_eq _ _).mpr rfl) c)
  exact hk X M1 hRel1 H locs hP hD hS ls hl
set_option maxHeartbeats 4000000 in
set_option maxRecDepth 100000 in
theorem law_seen {p : Program} {l : Launch} {e : Env} {s : State} {m : MethodId} {below : List Frame} {meth : Method} {c : Code} {D : va_G} {cyI cyZ cyT : ClassId} {adK adV qa qb : Nat → Nat} {b L : Nat} {xs : Nat → Int32} {N : Nat} {Rel : BX → Mo → Prop} (C0 : lw_At p s m meth c b L xs) (hK : jK D cyI cyZ cyT s) (hZ : jStr adK adV (fun q : Nat => s.heap.size ≤ q) s s.heap) (x3 : Int32) (hin : ∀ k : Int32, k ≤ 5 → ¬ k < 0 → vp_in (x3 + k) L) (hR : ∀ (a1 a2 : Int32) (X : BX) (M : Mo), Rel X M → ∃ (r : Int32) (X1 : BX) (M1 : Mo), f_X7_seen a1 a2 X = some (r, X1) ∧ f_X8_seen a1 a2 M = some (r, M1) ∧ Rel X1 M1) (hk : ∀ (X : BX) (M : Mo), Rel X M → ∀ (H : Heap) (locs : List Loc), va_P D vwCl (wX cyI cyZ cyT qa X ++ wM cyI cyZ qb M) H → va_D (fun q : Nat => s.heap.size ≤ q) (wX cyI cyZ cyT qa X ++ wM cyI cyZ qb M) → va_S (fun q : Nat => s.heap.size ≤ q) s.heap H locs → ∀ (ls : Array Slot), lv_has ls 4 [(0, .ref b), (1, .ref (qa 0)), (2, .ref (qb 0)), (3, .int x3)] → W p l e room_1 s m #[Value.ref b] below meth c H locs 69 821 (lw_Z below #[Value.ref b] s) (F0 m 1098 ls [])) (X : BX) (M : Mo) (hRel : Rel X M) (H : Heap) (locs : List Loc) : va_P D vwCl (wX cyI cyZ cyT qa X ++ wM cyI cyZ qb M) H → va_D (fun q : Nat => s.heap.size ≤ q) (wX cyI cyZ cyT qa X ++ wM cyI cyZ qb M) → va_S (fun q : Nat => s.heap.size ≤ q) s.heap H locs → ∀ (ls : Array Slot), lv_has ls 4 [(0, .ref b), (1, .ref (qa 0)), (2, .ref (qb 0)), (3, .int x3)] → W p l e room_1 s m #[Value.ref b] below meth c H locs 69 821 (lw_Z below #[Value.ref b] s) (F0 m 983 ls []) := by
  obtain ⟨hx, hb, hr, hml, hown, hts, hX, hbl, hlocks, hgv⟩ := C0
  have hts := fun w h => hts w (wsL_law_in w h)
  have hA : ∀ q : Nat, s.heap.size ≤ q → (fun q : Nat => s.heap.size ≤ q) q := fun _ h => h
  have hbA : ¬ (fun q : Nat => s.heap.size ≤ q) b := Nat.not_le.mpr hbl
  intro hP hD hS ls hl
  obtain ⟨r, X1, M1, e1, e2, hRel1⟩ := hR (xs (x3 + 1).toNatClampNeg) (xs (x3 + 2).toNatClampNeg) X M hRel
  refine lv_aload_n hx hb dL_law_983 rfl (lv_at hl 1 rfl) ?_
  refine lv_aload_n hx hb dL_law_984 rfl (lv_at hl 0 rfl) ?_
  refine lv_iload_n hx hb dL_law_985 rfl (lv_at hl 3 rfl) ?_
  refine lv_iconst (v := 1) hx hb dL_law_986 (by decide) ?_
  refine lv_iadd hx hb dL_law_987 ?_
  refine va_sld hx hb hX hbl hbA hS (hin 1 (by decide) (by decide)) dL_law_988 ?_
  refine lv_aload_n hx hb dL_law_989 rfl (lv_at hl 0 rfl) ?_
  refine lv_iload_n hx hb dL_law_990 rfl (lv_at hl 3 rfl) ?_
  refine lv_iconst (v := 2) hx hb dL_law_991 (by decide) ?_
  refine lv_iadd hx hb dL_law_992 ?_
  refine va_sld hx hb hX hbl hbA hS (hin 2 (by decide) (by decide)) dL_law_993 ?_
  refine jgi (w1 := fun u : BX => wX cyI cyZ cyT qa u) (wn := wX cyI cyZ cyT qa X1 ++ wM cyI cyZ qb M) (jmV (As := [.int (xs (x3 + 1).toNatClampNeg), .int (xs (x3 + 2).toNatClampNeg)]) (rest := []) ⟨hx, hb, hml, hown, hts⟩ (c_X7_seen l D cyI cyZ cyT qa H.size (xs (x3 + 1).toNatClampNeg) (xs (x3 + 2).toNatClampNeg) X (r, X1) e1) (cwV 2 hts gL_law_X7_seen rfl rfl rfl (by decide +kernel) ⟨Nat.le_of_ble_eq_true rfl, Nat.le_of_ble_eq_true rfl⟩) hK (hP.sub (ws' := wX cyI cyZ cyT qa X) [0, 1, 2, 3, 4, 5, 6, 7, 8, 9, 10, 11, 12, 13, 14, 15, 16, 17, 18, 19, 20, 21, 22, 23, 24, 25, 26, 27, 28, 29, 30, 31, 32, 33, 34, 35, 36, 37, 38, 39, 40, 41, 42, 43, 44, 45, 46, 47, 48, 49, 50, 51, 52, 53, 54] rfl) (hD.sub (ws' := wX cyI cyZ cyT qa X) [0, 1, 2, 3, 4, 5, 6, 7, 8, 9, 10, 11, 12, 13, 14, 15, 16, 17, 18, 19, 20, 21, 22, 23, 24, 25, 26, 27, 28, 29, 30, 31, 32, 33, 34, 35, 36, 37, 38, 39, 40, 41, 42, 43, 44, 45, 46, 47, 48, 49, 50, 51, 52, 53, 54] (by decide) rfl) rfl 7 0 rfl rfl rfl hl.1 (Nat.le_of_ble_eq_true rfl) dL_law_994 ⟨Nat.le_of_ble_eq_true rfl, Nat.le_of_ble_eq_true rfl⟩) hP hD hS hA [0, 1, 2, 3, 4, 5, 6, 7, 8, 9, 10, 11, 12, 13, 14, 15, 16, 17, 18, 19, 20, 21, 22, 23, 24, 25, 26, 27, 28, 29, 30, 31, 32, 33, 34, 35, 36, 37, 38, 39, 40, 41, 42, 43, 44, 45, 46, 47, 48, 49, 50, 51, 52, 53, 54] [55, 56, 57, 58, 59, 60, 61, 62, 63, 64, 65, 66, 67, 68] [14, 15, 16, 17, 18, 19, 20, 21, 22, 23, 24, 25, 26, 27, 28, 29, 30, 31, 32, 33, 34, 35, 36, 37, 38, 39, 40, 41, 42, 43, 44, 45, 46, 47, 48, 49, 50, 51, 52, 53, 54, 55, 56, 57, 58, 59, 60, 61, 62, 63, 64, 65, 66, 67, 68, 0, 1, 2, 3, 4, 5, 6, 7, 8, 9, 10, 11, 12, 13] rfl rfl (by decide) (by decide) rfl (by decide) (fun H locs hP hD hS => ?_)
  refine lv_aload_n hx hb dL_law_997 rfl (lv_at hl 2 rfl) ?_
  refine lv_aload_n hx hb dL_law_998 rfl (lv_at hl 0 rfl) ?_
  refine lv_iload_n hx hb dL_law_999 rfl (lv_at hl 3 rfl) ?_
  refine lv_iconst (v := 1) hx hb dL_law_1000 (by decide) ?_
  refine lv_iadd hx hb dL_law_1001 ?_
  refine va_sld hx hb hX hbl hbA hS (hin 1 (by decide) (by decide)) dL_law_1002 ?_
  refine lv_aload_n hx hb dL_law_1003 rfl (lv_at hl 0 rfl) ?_
  refine lv_iload_n hx hb dL_law_1004 rfl (lv_at hl 3 rfl) ?_
  refine lv_iconst (v := 2) hx hb dL_law_1005 (by decide) ?_
  refine lv_iadd hx hb dL_law_1006 ?_
  refine va_sld hx hb hX hbl hbA hS (hin 2 (by decide) (by decide)) dL_law_1007 ?_
  refine jgi (w1 := fun u : Mo => wM cyI cyZ qb u) (wn := wX cyI cyZ cyT qa X1 ++ wM cyI cyZ qb M1) (jmV (As := [.int (xs (x3 + 1).toNatClampNeg), .int (xs (x3 + 2).toNatClampNeg)]) (rest := [.int (r, X1).1]) ⟨hx, hb, hml, hown, hts⟩ (c_X8_seen l D cyI cyZ cyT qb H.size (xs (x3 + 1).toNatClampNeg) (xs (x3 + 2).toNatClampNeg) M (r, M1) e2) (cwV 2 hts gL_law_X8_seen rfl rfl rfl (by decide +kernel) ⟨Nat.le_of_ble_eq_true rfl, Nat.le_of_ble_eq_true rfl⟩) hK (hP.sub (ws' := wM cyI cyZ qb M) [55, 56, 57, 58, 59, 60, 61, 62, 63, 64, 65, 66, 67, 68] rfl) (hD.sub (ws' := wM cyI cyZ qb M) [55, 56, 57, 58, 59, 60, 61, 62, 63, 64, 65, 66, 67, 68] (by decide) rfl) rfl 8 0 rfl rfl rfl hl.1 (Nat.le_of_ble_eq_true rfl) dL_law_1008 ⟨Nat.le_of_ble_eq_true rfl, Nat.le_of_ble_eq_true rfl⟩) hP hD hS hA [55, 56, 57, 58, 59, 60, 61, 62, 63, 64, 65, 66, 67, 68] [0, 1, 2, 3, 4, 5, 6, 7, 8, 9, 10, 11, 12, 13, 14, 15, 16, 17, 18, 19, 20, 21, 22, 23, 24, 25, 26, 27, 28, 29, 30, 31, 32, 33, 34, 35, 36, 37, 38, 39, 40, 41, 42, 43, 44, 45, 46, 47, 48, 49, 50, 51, 52, 53, 54] [0, 1, 2, 3, 4, 5, 6, 7, 8, 9, 10, 11, 12, 13, 14, 15, 16, 17, 18, 19, 20, 21, 22, 23, 24, 25, 26, 27, 28, 29, 30, 31, 32, 33, 34, 35, 36, 37, 38, 39, 40, 41, 42, 43, 44, 45, 46, 47, 48, 49, 50, 51, 52, 53, 54, 55, 56, 57, 58, 59, 60, 61, 62, 63, 64, 65, 66, 67, 68] rfl rfl (by decide) (by decide) rfl (by decide) (fun H locs hP hD hS => ?_)
  refine lv_icmp_eq (tgt := 1098) hx hb dL_law_1011 (by decide) (fun _ => ?_) (fun c => absurd rfl c)
  exact hk X1 M1 hRel1 H locs hP hD hS ls hl
set_option maxHeartbeats 4000000 in
set_option maxRecDepth 100000 in
theorem law_forget {p : Program} {l : Launch} {e : Env} {s : State} {m : MethodId} {below : List Frame} {meth : Method} {c : Code} {D : va_G} {cyI cyZ cyT : ClassId} {adK adV qa qb : Nat → Nat} {b L : Nat} {xs : Nat → Int32} {N : Nat} {Rel : BX → Mo → Prop} (C0 : lw_At p s m meth c b L xs) (hK : jK D cyI cyZ cyT s) (hZ : jStr adK adV (fun q : Nat => s.heap.size ≤ q) s s.heap) (x3 : Int32) (hin : ∀ k : Int32, k ≤ 5 → ¬ k < 0 → vp_in (x3 + k) L) (hR : ∀ (X : BX) (M : Mo), Rel X M → ∃ (r : Int32) (X1 : BX) (M1 : Mo), f_X7_forget X = some (r, X1) ∧ f_X8_forget M = some (r, M1) ∧ Rel X1 M1) (hk : ∀ (X : BX) (M : Mo), Rel X M → ∀ (H : Heap) (locs : List Loc), va_P D vwCl (wX cyI cyZ cyT qa X ++ wM cyI cyZ qb M) H → va_D (fun q : Nat => s.heap.size ≤ q) (wX cyI cyZ cyT qa X ++ wM cyI cyZ qb M) → va_S (fun q : Nat => s.heap.size ≤ q) s.heap H locs → ∀ (ls : Array Slot), lv_has ls 4 [(0, .ref b), (1, .ref (qa 0)), (2, .ref (qb 0)), (3, .int x3)] → W p l e room_1 s m #[Value.ref b] below meth c H locs 69 821 (lw_Z below #[Value.ref b] s) (F0 m 1098 ls [])) (X : BX) (M : Mo) (hRel : Rel X M) (H : Heap) (locs : List Loc) : va_P D vwCl (wX cyI cyZ cyT qa X ++ wM cyI cyZ qb M) H → va_D (fun q : Nat => s.heap.size ≤ q) (wX cyI cyZ cyT qa X ++ wM cyI cyZ qb M) → va_S (fun q : Nat => s.heap.size ≤ q) s.heap H locs → ∀ (ls : Array Slot), lv_has ls 4 [(0, .ref b), (1, .ref (qa 0)), (2, .ref (qb 0)), (3, .int x3)] → W p l e room_1 s m #[Value.ref b] below meth c H locs 69 821 (lw_Z below #[Value.ref b] s) (F0 m 1016 ls []) := by
  obtain ⟨hx, hb, hr, hml, hown, hts, hX, hbl, hlocks, hgv⟩ := C0
  have hts := fun w h => hts w (wsL_law_in w h)
  have hA : ∀ q : Nat, s.heap.size ≤ q → (fun q : Nat => s.heap.size ≤ q) q := fun _ h => h
  have hbA : ¬ (fun q : Nat => s.heap.size ≤ q) b := Nat.not_le.mpr hbl
  intro hP hD hS ls hl
  obtain ⟨r, X1, M1, e1, e2, hRel1⟩ := hR  X M hRel
  refine lv_aload_n hx hb dL_law_1016 rfl (lv_at hl 1 rfl) ?_
  refine jgi (w1 := fun u : BX => wX cyI cyZ cyT qa u) (wn := wX cyI cyZ cyT qa X1 ++ wM cyI cyZ qb M) (jmV (As := []) (rest := []) ⟨hx, hb, hml, hown, hts⟩ (c_X7_forget l D cyI cyZ cyT qa H.size X (r, X1) e1) (cwV 0 hts gL_law_X7_forget rfl rfl rfl (by decide +kernel) ⟨Nat.le_of_ble_eq_true rfl, Nat.le_of_ble_eq_true rfl⟩) hK (hP.sub (ws' := wX cyI cyZ cyT qa X) [0, 1, 2, 3, 4, 5, 6, 7, 8, 9, 10, 11, 12, 13, 14, 15, 16, 17, 18, 19, 20, 21, 22, 23, 24, 25, 26, 27, 28, 29, 30, 31, 32, 33, 34, 35, 36, 37, 38, 39, 40, 41, 42, 43, 44, 45, 46, 47, 48, 49, 50, 51, 52, 53, 54] rfl) (hD.sub (ws' := wX cyI cyZ cyT qa X) [0, 1, 2, 3, 4, 5, 6, 7, 8, 9, 10, 11, 12, 13, 14, 15, 16, 17, 18, 19, 20, 21, 22, 23, 24, 25, 26, 27, 28, 29, 30, 31, 32, 33, 34, 35, 36, 37, 38, 39, 40, 41, 42, 43, 44, 45, 46, 47, 48, 49, 50, 51, 52, 53, 54] (by decide) rfl) rfl 7 0 rfl rfl rfl hl.1 (Nat.le_of_ble_eq_true rfl) dL_law_1017 ⟨Nat.le_of_ble_eq_true rfl, Nat.le_of_ble_eq_true rfl⟩) hP hD hS hA [0, 1, 2, 3, 4, 5, 6, 7, 8, 9, 10, 11, 12, 13, 14, 15, 16, 17, 18, 19, 20, 21, 22, 23, 24, 25, 26, 27, 28, 29, 30, 31, 32, 33, 34, 35, 36, 37, 38, 39, 40, 41, 42, 43, 44, 45, 46, 47, 48, 49, 50, 51, 52, 53, 54] [55, 56, 57, 58, 59, 60, 61, 62, 63, 64, 65, 66, 67, 68] [14, 15, 16, 17, 18, 19, 20, 21, 22, 23, 24, 25, 26, 27, 28, 29, 30, 31, 32, 33, 34, 35, 36, 37, 38, 39, 40, 41, 42, 43, 44, 45, 46, 47, 48, 49, 50, 51, 52, 53, 54, 55, 56, 57, 58, 59, 60, 61, 62, 63, 64, 65, 66, 67, 68, 0, 1, 2, 3, 4, 5, 6, 7, 8, 9, 10, 11, 12, 13] rfl rfl (by decide) (by decide) rfl (by decide) (fun H locs hP hD hS => ?_)
  refine lv_aload_n hx hb dL_law_1020 rfl (lv_at hl 2 rfl) ?_
  refine jgi (w1 := fun u : Mo => wM cyI cyZ qb u) (wn := wX cyI cyZ cyT qa X1 ++ wM cyI cyZ qb M1) (jmV (As := []) (rest := [.int (r, X1).1]) ⟨hx, hb, hml, hown, hts⟩ (c_X8_forget l D cyI cyZ cyT qb H.size M (r, M1) e2) (cwV 0 hts gL_law_X8_forget rfl rfl rfl (by decide +kernel) ⟨Nat.le_of_ble_eq_true rfl, Nat.le_of_ble_eq_true rfl⟩) hK (hP.sub (ws' := wM cyI cyZ qb M) [55, 56, 57, 58, 59, 60, 61, 62, 63, 64, 65, 66, 67, 68] rfl) (hD.sub (ws' := wM cyI cyZ qb M) [55, 56, 57, 58, 59, 60, 61, 62, 63, 64, 65, 66, 67, 68] (by decide) rfl) rfl 8 0 rfl rfl rfl hl.1 (Nat.le_of_ble_eq_true rfl) dL_law_1021 ⟨Nat.le_of_ble_eq_true rfl, Nat.le_of_ble_eq_true rfl⟩) hP hD hS hA [55, 56, 57, 58, 59, 60, 61, 62, 63, 64, 65, 66, 67, 68] [0, 1, 2, 3, 4, 5, 6, 7, 8, 9, 10, 11, 12, 13, 14, 15, 16, 17, 18, 19, 20, 21, 22, 23, 24, 25, 26, 27, 28, 29, 30, 31, 32, 33, 34, 35, 36, 37, 38, 39, 40, 41, 42, 43, 44, 45, 46, 47, 48, 49, 50, 51, 52, 53, 54] [0, 1, 2, 3, 4, 5, 6, 7, 8, 9, 10, 11, 12, 13, 14, 15, 16, 17, 18, 19, 20, 21, 22, 23, 24, 25, 26, 27, 28, 29, 30, 31, 32, 33, 34, 35, 36, 37, 38, 39, 40, 41, 42, 43, 44, 45, 46, 47, 48, 49, 50, 51, 52, 53, 54, 55, 56, 57, 58, 59, 60, 61, 62, 63, 64, 65, 66, 67, 68] rfl rfl (by decide) (by decide) rfl (by decide) (fun H locs hP hD hS => ?_)
  refine lv_icmp_eq (tgt := 1098) hx hb dL_law_1024 (by decide) (fun _ => ?_) (fun c => absurd rfl c)
  exact hk X1 M1 hRel1 H locs hP hD hS ls hl
set_option maxHeartbeats 4000000 in
set_option maxRecDepth 100000 in
theorem law_teams {p : Program} {l : Launch} {e : Env} {s : State} {m : MethodId} {below : List Frame} {meth : Method} {c : Code} {D : va_G} {cyI cyZ cyT : ClassId} {adK adV qa qb : Nat → Nat} {b L : Nat} {xs : Nat → Int32} {N : Nat} {Rel : BX → Mo → Prop} (C0 : lw_At p s m meth c b L xs) (hK : jK D cyI cyZ cyT s) (hZ : jStr adK adV (fun q : Nat => s.heap.size ≤ q) s s.heap) (x3 : Int32) (hin : ∀ k : Int32, k ≤ 5 → ¬ k < 0 → vp_in (x3 + k) L) (hR : ∀ (a1 : Int32) (X : BX) (M : Mo), Rel X M → ∃ (r : Int32) (M1 : Mo), f_X7_teams N a1 X = some r ∧ f_X8_teams N a1 M = some (r, M1) ∧ Rel X M1) (hk : ∀ (X : BX) (M : Mo), Rel X M → ∀ (H : Heap) (locs : List Loc), va_P D vwCl (wX cyI cyZ cyT qa X ++ wM cyI cyZ qb M) H → va_D (fun q : Nat => s.heap.size ≤ q) (wX cyI cyZ cyT qa X ++ wM cyI cyZ qb M) → va_S (fun q : Nat => s.heap.size ≤ q) s.heap H locs → ∀ (ls : Array Slot), lv_has ls 4 [(0, .ref b), (1, .ref (qa 0)), (2, .ref (qb 0)), (3, .int x3)] → W p l e room_1 s m #[Value.ref b] below meth c H locs 69 821 (lw_Z below #[Value.ref b] s) (F0 m 1098 ls [])) (X : BX) (M : Mo) (hRel : Rel X M) (H : Heap) (locs : List Loc) : va_P D vwCl (wX cyI cyZ cyT qa X ++ wM cyI cyZ qb M) H → va_D (fun q : Nat => s.heap.size ≤ q) (wX cyI cyZ cyT qa X ++ wM cyI cyZ qb M) → va_S (fun q : Nat => s.heap.size ≤ q) s.heap H locs → ∀ (ls : Array Slot), lv_has ls 4 [(0, .ref b), (1, .ref (qa 0)), (2, .ref (qb 0)), (3, .int x3)] → W p l e room_1 s m #[Value.ref b] below meth c H locs 69 821 (lw_Z below #[Value.ref b] s) (F0 m 1029 ls []) := by
  obtain ⟨hx, hb, hr, hml, hown, hts, hX, hbl, hlocks, hgv⟩ := C0
  have hts := fun w h => hts w (wsL_law_in w h)
  have hA : ∀ q : Nat, s.heap.size ≤ q → (fun q : Nat => s.heap.size ≤ q) q := fun _ h => h
  have hbA : ¬ (fun q : Nat => s.heap.size ≤ q) b := Nat.not_le.mpr hbl
  intro hP hD hS ls hl
  obtain ⟨r, M1, e1, e2, hRel1⟩ := hR (xs (x3 + 1).toNatClampNeg) X M hRel
  refine lv_aload_n hx hb dL_law_1029 rfl (lv_at hl 1 rfl) ?_
  refine lv_aload_n hx hb dL_law_1030 rfl (lv_at hl 0 rfl) ?_
  refine lv_iload_n hx hb dL_law_1031 rfl (lv_at hl 3 rfl) ?_
  refine lv_iconst (v := 1) hx hb dL_law_1032 (by decide) ?_
  refine lv_iadd hx hb dL_law_1033 ?_
  refine va_sld hx hb hX hbl hbA hS (hin 1 (by decide) (by decide)) dL_law_1034 ?_
  refine jki (jrV (As := [.int (xs (x3 + 1).toNatClampNeg)]) (rest := []) ⟨hx, hb, hml, hown, hts⟩ (c_X7_teams l D cyI cyZ cyT qa N (xs (x3 + 1).toNatClampNeg) X r e1) (cwV 1 hts gL_law_X7_teams rfl rfl rfl (by decide +kernel) ⟨Nat.le_of_ble_eq_true rfl, Nat.le_of_ble_eq_true rfl⟩) hK (hP.sub (ws' := wX cyI cyZ cyT qa X) [0, 1, 2, 3, 4, 5, 6, 7, 8, 9, 10, 11, 12, 13, 14, 15, 16, 17, 18, 19, 20, 21, 22, 23, 24, 25, 26, 27, 28, 29, 30, 31, 32, 33, 34, 35, 36, 37, 38, 39, 40, 41, 42, 43, 44, 45, 46, 47, 48, 49, 50, 51, 52, 53, 54] rfl) rfl 7 0 rfl rfl rfl hl.1 (Nat.le_of_ble_eq_true rfl) dL_law_1035 ⟨Nat.le_of_ble_eq_true rfl, Nat.le_of_ble_eq_true rfl⟩) ?_
  refine lv_aload_n hx hb dL_law_1038 rfl (lv_at hl 2 rfl) ?_
  refine lv_aload_n hx hb dL_law_1039 rfl (lv_at hl 0 rfl) ?_
  refine lv_iload_n hx hb dL_law_1040 rfl (lv_at hl 3 rfl) ?_
  refine lv_iconst (v := 1) hx hb dL_law_1041 (by decide) ?_
  refine lv_iadd hx hb dL_law_1042 ?_
  refine va_sld hx hb hX hbl hbA hS (hin 1 (by decide) (by decide)) dL_law_1043 ?_
  refine jgi (w1 := fun u : Mo => wM cyI cyZ qb u) (wn := wX cyI cyZ cyT qa X ++ wM cyI cyZ qb M1) (jmV (As := [.int (xs (x3 + 1).toNatClampNeg)]) (rest := [.int r]) ⟨hx, hb, hml, hown, hts⟩ (c_X8_teams l D cyI cyZ cyT qb H.size N (xs (x3 + 1).toNatClampNeg) M (r, M1) e2) (cwV 1 hts gL_law_X8_teams rfl rfl rfl (by decide +kernel) ⟨Nat.le_of_ble_eq_true rfl, Nat.le_of_ble_eq_true rfl⟩) hK (hP.sub (ws' := wM cyI cyZ qb M) [55, 56, 57, 58, 59, 60, 61, 62, 63, 64, 65, 66, 67, 68] rfl) (hD.sub (ws' := wM cyI cyZ qb M) [55, 56, 57, 58, 59, 60, 61, 62, 63, 64, 65, 66, 67, 68] (by decide) rfl) rfl 8 0 rfl rfl rfl hl.1 (Nat.le_of_ble_eq_true rfl) dL_law_1044 ⟨Nat.le_of_ble_eq_true rfl, Nat.le_of_ble_eq_true rfl⟩) hP hD hS hA [55, 56, 57, 58, 59, 60, 61, 62, 63, 64, 65, 66, 67, 68] [0, 1, 2, 3, 4, 5, 6, 7, 8, 9, 10, 11, 12, 13, 14, 15, 16, 17, 18, 19, 20, 21, 22, 23, 24, 25, 26, 27, 28, 29, 30, 31, 32, 33, 34, 35, 36, 37, 38, 39, 40, 41, 42, 43, 44, 45, 46, 47, 48, 49, 50, 51, 52, 53, 54] [0, 1, 2, 3, 4, 5, 6, 7, 8, 9, 10, 11, 12, 13, 14, 15, 16, 17, 18, 19, 20, 21, 22, 23, 24, 25, 26, 27, 28, 29, 30, 31, 32, 33, 34, 35, 36, 37, 38, 39, 40, 41, 42, 43, 44, 45, 46, 47, 48, 49, 50, 51, 52, 53, 54, 55, 56, 57, 58, 59, 60, 61, 62, 63, 64, 65, 66, 67, 68] rfl rfl (by decide) (by decide) rfl (by decide) (fun H locs hP hD hS => ?_)
  refine lv_icmp_eq (tgt := 1098) hx hb dL_law_1047 (by decide) (fun _ => ?_) (fun c => absurd rfl c)
  exact hk X M1 hRel1 H locs hP hD hS ls hl
set_option maxHeartbeats 4000000 in
set_option maxRecDepth 100000 in
theorem law_teamOf {p : Program} {l : Launch} {e : Env} {s : State} {m : MethodId} {below : List Frame} {meth : Method} {c : Code} {D : va_G} {cyI cyZ cyT : ClassId} {adK adV qa qb : Nat → Nat} {b L : Nat} {xs : Nat → Int32} {N : Nat} {Rel : BX → Mo → Prop} (C0 : lw_At p s m meth c b L xs) (hK : jK D cyI cyZ cyT s) (hZ : jStr adK adV (fun q : Nat => s.heap.size ≤ q) s s.heap) (x3 : Int32) (hin : ∀ k : Int32, k ≤ 5 → ¬ k < 0 → vp_in (x3 + k) L) (hR : ∀ (a1 : Int32) (X : BX) (M : Mo), Rel X M → ∃ (r : Int32) (M1 : Mo), f_X7_teamOf N a1 X = some r ∧ f_X8_teamOf N a1 M = some (r, M1) ∧ Rel X M1) (hk : ∀ (X : BX) (M : Mo), Rel X M → ∀ (H : Heap) (locs : List Loc), va_P D vwCl (wX cyI cyZ cyT qa X ++ wM cyI cyZ qb M) H → va_D (fun q : Nat => s.heap.size ≤ q) (wX cyI cyZ cyT qa X ++ wM cyI cyZ qb M) → va_S (fun q : Nat => s.heap.size ≤ q) s.heap H locs → ∀ (ls : Array Slot), lv_has ls 4 [(0, .ref b), (1, .ref (qa 0)), (2, .ref (qb 0)), (3, .int x3)] → W p l e room_1 s m #[Value.ref b] below meth c H locs 69 821 (lw_Z below #[Value.ref b] s) (F0 m 1098 ls [])) (X : BX) (M : Mo) (hRel : Rel X M) (H : Heap) (locs : List Loc) : va_P D vwCl (wX cyI cyZ cyT qa X ++ wM cyI cyZ qb M) H → va_D (fun q : Nat => s.heap.size ≤ q) (wX cyI cyZ cyT qa X ++ wM cyI cyZ qb M) → va_S (fun q : Nat => s.heap.size ≤ q) s.heap H locs → ∀ (ls : Array Slot), lv_has ls 4 [(0, .ref b), (1, .ref (qa 0)), (2, .ref (qb 0)), (3, .int x3)] → W p l e room_1 s m #[Value.ref b] below meth c H locs 69 821 (lw_Z below #[Value.ref b] s) (F0 m 1052 ls []) := by
  obtain ⟨hx, hb, hr, hml, hown, hts, hX, hbl, hlocks, hgv⟩ := C0
  have hts := fun w h => hts w (wsL_law_in w h)
  have hA : ∀ q : Nat, s.heap.size ≤ q → (fun q : Nat => s.heap.size ≤ q) q := fun _ h => h
  have hbA : ¬ (fun q : Nat => s.heap.size ≤ q) b := Nat.not_le.mpr hbl
  intro hP hD hS ls hl
  obtain ⟨r, M1, e1, e2, hRel1⟩ := hR (xs (x3 + 1).toNatClampNeg) X M hRel
  refine lv_aload_n hx hb dL_law_1052 rfl (lv_at hl 1 rfl) ?_
  refine lv_aload_n hx hb dL_law_1053 rfl (lv_at hl 0 rfl) ?_
  refine lv_iload_n hx hb dL_law_1054 rfl (lv_at hl 3 rfl) ?_
  refine lv_iconst (v := 1) hx hb dL_law_1055 (by decide) ?_
  refine lv_iadd hx hb dL_law_1056 ?_
  refine va_sld hx hb hX hbl hbA hS (hin 1 (by decide) (by decide)) dL_law_1057 ?_
  refine jki (jrV (As := [.int (xs (x3 + 1).toNatClampNeg)]) (rest := []) ⟨hx, hb, hml, hown, hts⟩ (c_X7_teamOf l D cyI cyZ cyT qa N (xs (x3 + 1).toNatClampNeg) X r e1) (cwV 1 hts gL_law_X7_teamOf rfl rfl rfl (by decide +kernel) ⟨Nat.le_of_ble_eq_true rfl, Nat.le_of_ble_eq_true rfl⟩) hK (hP.sub (ws' := wX cyI cyZ cyT qa X) [0, 1, 2, 3, 4, 5, 6, 7, 8, 9, 10, 11, 12, 13, 14, 15, 16, 17, 18, 19, 20, 21, 22, 23, 24, 25, 26, 27, 28, 29, 30, 31, 32, 33, 34, 35, 36, 37, 38, 39, 40, 41, 42, 43, 44, 45, 46, 47, 48, 49, 50, 51, 52, 53, 54] rfl) rfl 7 0 rfl rfl rfl hl.1 (Nat.le_of_ble_eq_true rfl) dL_law_1058 ⟨Nat.le_of_ble_eq_true rfl, Nat.le_of_ble_eq_true rfl⟩) ?_
  refine lv_aload_n hx hb dL_law_1061 rfl (lv_at hl 2 rfl) ?_
  refine lv_aload_n hx hb dL_law_1062 rfl (lv_at hl 0 rfl) ?_
  refine lv_iload_n hx hb dL_law_1063 rfl (lv_at hl 3 rfl) ?_
  refine lv_iconst (v := 1) hx hb dL_law_1064 (by decide) ?_
  refine lv_iadd hx hb dL_law_1065 ?_
  refine va_sld hx hb hX hbl hbA hS (hin 1 (by decide) (by decide)) dL_law_1066 ?_
  refine jgi (w1 := fun u : Mo => wM cyI cyZ qb u) (wn := wX cyI cyZ cyT qa X ++ wM cyI cyZ qb M1) (jmV (As := [.int (xs (x3 + 1).toNatClampNeg)]) (rest := [.int r]) ⟨hx, hb, hml, hown, hts⟩ (c_X8_teamOf l D cyI cyZ cyT qb H.size N (xs (x3 + 1).toNatClampNeg) M (r, M1) e2) (cwV 1 hts gL_law_X8_teamOf rfl rfl rfl (by decide +kernel) ⟨Nat.le_of_ble_eq_true rfl, Nat.le_of_ble_eq_true rfl⟩) hK (hP.sub (ws' := wM cyI cyZ qb M) [55, 56, 57, 58, 59, 60, 61, 62, 63, 64, 65, 66, 67, 68] rfl) (hD.sub (ws' := wM cyI cyZ qb M) [55, 56, 57, 58, 59, 60, 61, 62, 63, 64, 65, 66, 67, 68] (by decide) rfl) rfl 8 0 rfl rfl rfl hl.1 (Nat.le_of_ble_eq_true rfl) dL_law_1067 ⟨Nat.le_of_ble_eq_true rfl, Nat.le_of_ble_eq_true rfl⟩) hP hD hS hA [55, 56, 57, 58, 59, 60, 61, 62, 63, 64, 65, 66, 67, 68] [0, 1, 2, 3, 4, 5, 6, 7, 8, 9, 10, 11, 12, 13, 14, 15, 16, 17, 18, 19, 20, 21, 22, 23, 24, 25, 26, 27, 28, 29, 30, 31, 32, 33, 34, 35, 36, 37, 38, 39, 40, 41, 42, 43, 44, 45, 46, 47, 48, 49, 50, 51, 52, 53, 54] [0, 1, 2, 3, 4, 5, 6, 7, 8, 9, 10, 11, 12, 13, 14, 15, 16, 17, 18, 19, 20, 21, 22, 23, 24, 25, 26, 27, 28, 29, 30, 31, 32, 33, 34, 35, 36, 37, 38, 39, 40, 41, 42, 43, 44, 45, 46, 47, 48, 49, 50, 51, 52, 53, 54, 55, 56, 57, 58, 59, 60, 61, 62, 63, 64, 65, 66, 67, 68] rfl rfl (by decide) (by decide) rfl (by decide) (fun H locs hP hD hS => ?_)
  refine lv_icmp_eq (tgt := 1098) hx hb dL_law_1070 (by decide) (fun _ => ?_) (fun c => absurd rfl c)
  exact hk X M1 hRel1 H locs hP hD hS ls hl
set_option maxHeartbeats 4000000 in
set_option maxRecDepth 100000 in
theorem law_count {p : Program} {l : Launch} {e : Env} {s : State} {m : MethodId} {below : List Frame} {meth : Method} {c : Code} {D : va_G} {cyI cyZ cyT : ClassId} {adK adV qa qb : Nat → Nat} {b L : Nat} {xs : Nat → Int32} {N : Nat} {Rel : BX → Mo → Prop} (C0 : lw_At p s m meth c b L xs) (hK : jK D cyI cyZ cyT s) (hZ : jStr adK adV (fun q : Nat => s.heap.size ≤ q) s s.heap) (x3 : Int32) (hin : ∀ k : Int32, k ≤ 5 → ¬ k < 0 → vp_in (x3 + k) L) (hR : ∀ (a1 : Int32) (X : BX) (M : Mo), Rel X M → ∃ (r : Int32) (M1 : Mo), f_X7_count N a1 X = some r ∧ f_X8_count N a1 M = some (r, M1) ∧ Rel X M1) (hk : ∀ (X : BX) (M : Mo), Rel X M → ∀ (H : Heap) (locs : List Loc), va_P D vwCl (wX cyI cyZ cyT qa X ++ wM cyI cyZ qb M) H → va_D (fun q : Nat => s.heap.size ≤ q) (wX cyI cyZ cyT qa X ++ wM cyI cyZ qb M) → va_S (fun q : Nat => s.heap.size ≤ q) s.heap H locs → ∀ (ls : Array Slot), lv_has ls 4 [(0, .ref b), (1, .ref (qa 0)), (2, .ref (qb 0)), (3, .int x3)] → W p l e room_1 s m #[Value.ref b] below meth c H locs 69 821 (lw_Z below #[Value.ref b] s) (F0 m 1098 ls [])) (X : BX) (M : Mo) (hRel : Rel X M) (H : Heap) (locs : List Loc) : va_P D vwCl (wX cyI cyZ cyT qa X ++ wM cyI cyZ qb M) H → va_D (fun q : Nat => s.heap.size ≤ q) (wX cyI cyZ cyT qa X ++ wM cyI cyZ qb M) → va_S (fun q : Nat => s.heap.size ≤ q) s.heap H locs → ∀ (ls : Array Slot), lv_has ls 4 [(0, .ref b), (1, .ref (qa 0)), (2, .ref (qb 0)), (3, .int x3)] → W p l e room_1 s m #[Value.ref b] below meth c H locs 69 821 (lw_Z below #[Value.ref b] s) (F0 m 1075 ls []) := by
  obtain ⟨hx, hb, hr, hml, hown, hts, hX, hbl, hlocks, hgv⟩ := C0
  have hts := fun w h => hts w (wsL_law_in w h)
  have hA : ∀ q : Nat, s.heap.size ≤ q → (fun q : Nat => s.heap.size ≤ q) q := fun _ h => h
  have hbA : ¬ (fun q : Nat => s.heap.size ≤ q) b := Nat.not_le.mpr hbl
  intro hP hD hS ls hl
  obtain ⟨r, M1, e1, e2, hRel1⟩ := hR (xs (x3 + 1).toNatClampNeg) X M hRel
  refine lv_aload_n hx hb dL_law_1075 rfl (lv_at hl 1 rfl) ?_
  refine lv_aload_n hx hb dL_law_1076 rfl (lv_at hl 0 rfl) ?_
  refine lv_iload_n hx hb dL_law_1077 rfl (lv_at hl 3 rfl) ?_
  refine lv_iconst (v := 1) hx hb dL_law_1078 (by decide) ?_
  refine lv_iadd hx hb dL_law_1079 ?_
  refine va_sld hx hb hX hbl hbA hS (hin 1 (by decide) (by decide)) dL_law_1080 ?_
  refine jki (jrV (As := [.int (xs (x3 + 1).toNatClampNeg)]) (rest := []) ⟨hx, hb, hml, hown, hts⟩ (c_X7_count l D cyI cyZ cyT qa N (xs (x3 + 1).toNatClampNeg) X r e1) (cwV 1 hts gL_law_X7_count rfl rfl rfl (by decide +kernel) ⟨Nat.le_of_ble_eq_true rfl, Nat.le_of_ble_eq_true rfl⟩) hK (hP.sub (ws' := wX cyI cyZ cyT qa X) [0, 1, 2, 3, 4, 5, 6, 7, 8, 9, 10, 11, 12, 13, 14, 15, 16, 17, 18, 19, 20, 21, 22, 23, 24, 25, 26, 27, 28, 29, 30, 31, 32, 33, 34, 35, 36, 37, 38, 39, 40, 41, 42, 43, 44, 45, 46, 47, 48, 49, 50, 51, 52, 53, 54] rfl) rfl 7 0 rfl rfl rfl hl.1 (Nat.le_of_ble_eq_true rfl) dL_law_1081 ⟨Nat.le_of_ble_eq_true rfl, Nat.le_of_ble_eq_true rfl⟩) ?_
  refine lv_aload_n hx hb dL_law_1084 rfl (lv_at hl 2 rfl) ?_
  refine lv_aload_n hx hb dL_law_1085 rfl (lv_at hl 0 rfl) ?_
  refine lv_iload_n hx hb dL_law_1086 rfl (lv_at hl 3 rfl) ?_
  refine lv_iconst (v := 1) hx hb dL_law_1087 (by decide) ?_
  refine lv_iadd hx hb dL_law_1088 ?_
  refine va_sld hx hb hX hbl hbA hS (hin 1 (by decide) (by decide)) dL_law_1089 ?_
  refine jgi (w1 := fun u : Mo => wM cyI cyZ qb u) (wn := wX cyI cyZ cyT qa X ++ wM cyI cyZ qb M1) (jmV (As := [.int (xs (x3 + 1).toNatClampNeg)]) (rest := [.int r]) ⟨hx, hb, hml, hown, hts⟩ (c_X8_count l D cyI cyZ cyT qb H.size N (xs (x3 + 1).toNatClampNeg) M (r, M1) e2) (cwV 1 hts gL_law_X8_count rfl rfl rfl (by decide +kernel) ⟨Nat.le_of_ble_eq_true rfl, Nat.le_of_ble_eq_true rfl⟩) hK (hP.sub (ws' := wM cyI cyZ qb M) [55, 56, 57, 58, 59, 60, 61, 62, 63, 64, 65, 66, 67, 68] rfl) (hD.sub (ws' := wM cyI cyZ qb M) [55, 56, 57, 58, 59, 60, 61, 62, 63, 64, 65, 66, 67, 68] (by decide) rfl) rfl 8 0 rfl rfl rfl hl.1 (Nat.le_of_ble_eq_true rfl) dL_law_1090 ⟨Nat.le_of_ble_eq_true rfl, Nat.le_of_ble_eq_true rfl⟩) hP hD hS hA [55, 56, 57, 58, 59, 60, 61, 62, 63, 64, 65, 66, 67, 68] [0, 1, 2, 3, 4, 5, 6, 7, 8, 9, 10, 11, 12, 13, 14, 15, 16, 17, 18, 19, 20, 21, 22, 23, 24, 25, 26, 27, 28, 29, 30, 31, 32, 33, 34, 35, 36, 37, 38, 39, 40, 41, 42, 43, 44, 45, 46, 47, 48, 49, 50, 51, 52, 53, 54] [0, 1, 2, 3, 4, 5, 6, 7, 8, 9, 10, 11, 12, 13, 14, 15, 16, 17, 18, 19, 20, 21, 22, 23, 24, 25, 26, 27, 28, 29, 30, 31, 32, 33, 34, 35, 36, 37, 38, 39, 40, 41, 42, 43, 44, 45, 46, 47, 48, 49, 50, 51, 52, 53, 54, 55, 56, 57, 58, 59, 60, 61, 62, 63, 64, 65, 66, 67, 68] rfl rfl (by decide) (by decide) rfl (by decide) (fun H locs hP hD hS => ?_)
  refine lv_icmp_eq (tgt := 1098) hx hb dL_law_1093 (by decide) (fun _ => ?_) (fun c => absurd rfl c)
  exact hk X M1 hRel1 H locs hP hD hS ls hl
def jAll (N : Nat) (Rel : BX → Mo → Prop) : Prop :=
  (∀ (a1 : Int32) (X : BX) (M : Mo), Rel X M → ∃ (r : Int32) (X1 : BX) (M1 : Mo), f_X7_write a1 X = some (r, X1) ∧ f_X8_write a1 M = some (r, M1) ∧ Rel X1 M1) ∧
  (∀ (X : BX) (M : Mo), Rel X M → ∃ (r : Int32) (X1 : BX) (M1 : Mo), f_X7_erase X = some (r, X1) ∧ f_X8_erase M = some (r, M1) ∧ Rel X1 M1) ∧
  (∀ (X : BX) (M : Mo), Rel X M → ∃ (r : Int32) (X1 : BX) (M1 : Mo), f_X7_fault N X = some (r, X1) ∧ f_X8_fault N M = some (r, M1) ∧ Rel X1 M1) ∧
  (∀ (X : BX) (M : Mo), Rel X M → ∃ (r : Int32) (X1 : BX) (M1 : Mo), f_X7_house N X = some (r, X1) ∧ f_X8_house N M = some (r, M1) ∧ Rel X1 M1) ∧
  (∀ (a1 a2 : Int32) (X : BX) (M : Mo), Rel X M → ∃ (r : Int32) (M1 : Mo), f_X7_mouse N a1 a2 X = some r ∧ f_X8_mouse N a1 a2 M = some (r, M1) ∧ Rel X M1) ∧
  (∀ (a1 a2 : Int32) (X : BX) (M : Mo), Rel X M → ∃ (r : Int32) (M1 : Mo), f_X7_step a1 a2 X = some r ∧ f_X8_step a1 a2 M = some (r, M1) ∧ Rel X M1) ∧
  (∀ (a1 a2 : Int32) (X : BX) (M : Mo), Rel X M → ∃ (r : Int32) (M1 : Mo), f_X7_rat a1 a2 X = some r ∧ f_X8_rat a1 a2 M = some (r, M1) ∧ Rel X M1) ∧
  (∀ (a1 a2 : Int32) (X : BX) (M : Mo), Rel X M → ∃ (r : Int32) (M1 : Mo), f_X7_as a1 a2 X = some r ∧ f_X8_as a1 a2 M = some (r, M1) ∧ Rel X M1) ∧
  (∀ (a1 a2 : Int32) (X : BX) (M : Mo), Rel X M → ∃ (r : Int32) (M1 : Mo), f_X7_danger a1 a2 X = some r ∧ f_X8_danger a1 a2 M = some (r, M1) ∧ Rel X M1) ∧
  (∀ (a1 a2 : Int32) (X : BX) (M : Mo), Rel X M → ∃ (r : Int32) (X1 : BX) (M1 : Mo), f_X7_put N a1 a2 X = some (r, X1) ∧ f_X8_put N a1 a2 M = some (r, M1) ∧ Rel X1 M1) ∧
  (∀ (X : BX) (M : Mo), Rel X M → ∃ (r : Int32) (X1 : BX) (M1 : Mo), f_X7_clear N X = some (r, X1) ∧ f_X8_clear N M = some (r, M1) ∧ Rel X1 M1) ∧
  (∀ (a1 : Int32) (X : BX) (M : Mo), Rel X M → ∃ (r : Int32) (X1 : BX) (M1 : Mo), f_X7_night N a1 X = some (r, X1) ∧ f_X8_night N a1 M = some (r, M1) ∧ Rel X1 M1) ∧
  (∀ (X : BX) (M : Mo), Rel X M → ∃ (r : Int32) (X1 : BX) (M1 : Mo), f_X7_undo N X = some (r, X1) ∧ f_X8_undo N M = some (r, M1) ∧ Rel X1 M1) ∧
  (∀ (a1 : Int32) (X : BX) (M : Mo), Rel X M → ∃ (r : Int32) (X1 : BX) (M1 : Mo), f_X7_keep N a1 X = some (r, X1) ∧ f_X8_keep N a1 M = some (r, M1) ∧ Rel X1 M1) ∧
  (∀ (a1 : Int32) (X : BX) (M : Mo), Rel X M → ∃ (r : Int32) (X1 : BX) (M1 : Mo), f_X7_back N a1 X = some (r, X1) ∧ f_X8_back N a1 M = some (r, M1) ∧ Rel X1 M1) ∧
  (∀ (a1 : Int32) (X : BX) (M : Mo), Rel X M → ∃ (r : Int32) (M1 : Mo), f_X7_through N a1 X = some r ∧ f_X8_through N a1 M = some (r, M1) ∧ Rel X M1) ∧
  (∀ (a1 a2 : Int32) (X : BX) (M : Mo), Rel X M → ∃ (r : Int32) (M1 : Mo), f_X7_fails N a1 a2 X = some r ∧ f_X8_fails_ N a1 a2 M = some (r, M1) ∧ Rel X M1) ∧
  (∀ (a1 : Int32) (X : BX) (M : Mo), Rel X M → ∃ (r : Int32) (M1 : Mo), f_X7_loss N a1 X = some r ∧ f_X8_loss N a1 M = some (r, M1) ∧ Rel X M1) ∧
  (∀ (a1 : Int32) (X : BX) (M : Mo), Rel X M → ∃ (r : Int32) (X1 : BX) (M1 : Mo), f_X7_best N a1 X = some (r, X1) ∧ f_X8_best N a1 M = some (r, M1) ∧ Rel X1 M1) ∧
  (∀ (a1 : Int32) (X : BX) (M : Mo), Rel X M → ∃ (r : Int32) (X1 : BX) (M1 : Mo), f_X7_bestOf N a1 X = some (r, X1) ∧ f_X8_bestOf N a1 M = some (r, M1) ∧ Rel X1 M1) ∧
  (∀ (a1 a2 : Int32) (X : BX) (M : Mo), Rel X M → ∃ (r : Int32) (M1 : Mo), f_X7_drawn N a1 a2 X = some r ∧ f_X8_drawn N a1 a2 M = some (r, M1) ∧ Rel X M1) ∧
  (∀ (a1 a2 : Int32) (X : BX) (M : Mo), Rel X M → ∃ (r : Int32) (M1 : Mo), f_X7_alone N a1 a2 X = some r ∧ f_X8_alone N a1 a2 M = some (r, M1) ∧ Rel X M1) ∧
  (∀ (a1 a2 : Int32) (X : BX) (M : Mo), Rel X M → ∃ (r : Int32) (M1 : Mo), f_X7_dread N a1 a2 X = some r ∧ f_X8_dread N a1 a2 M = some (r, M1) ∧ Rel X M1) ∧
  (∀ (a1 : Int32) (X : BX) (M : Mo), Rel X M → ∃ (r : Int32) (M1 : Mo), f_X7_hires N a1 X = some r ∧ f_X8_hires N a1 M = some (r, M1) ∧ Rel X M1) ∧
  (∀ (a1 a2 : Int32) (X : BX) (M : Mo), Rel X M → ∃ (r : Int32) (X1 : BX) (M1 : Mo), f_X7_rests N a1 a2 X = some (r, X1) ∧ f_X8_rests N a1 a2 M = some (r, M1) ∧ Rel X1 M1) ∧
  (∀ (X : BX) (M : Mo), Rel X M → ∃ (r : Int32) (M1 : Mo), f_X7_fund N X = some r ∧ f_X8_fund N M = some (r, M1) ∧ Rel X M1) ∧
  (∀ (a1 : Int32) (X : BX) (M : Mo), Rel X M → ∃ (r : Int32) (M1 : Mo), f_X7_rats N a1 X = some r ∧ f_X8_rats N a1 M = some (r, M1) ∧ Rel X M1) ∧
  (∀ (a1 a2 a3 a4 a5 : Int32) (X : BX) (M : Mo), Rel X M → ∃ (r : Int64) (M1 : Mo), f_X7_shoe N a1 a2 a3 a4 a5 X = some r ∧ f_X8_shoe N a1 a2 a3 a4 a5 M = some (r, M1) ∧ Rel X M1) ∧
  (∀ (a1 a2 a3 a4 a5 : Int32) (X : BX) (M : Mo), Rel X M → ∃ (r : Int64) (M1 : Mo), f_X7_callOff N a1 a2 a3 a4 a5 X = some r ∧ f_X8_callOff N a1 a2 a3 a4 a5 M = some (r, M1) ∧ Rel X M1) ∧
  (∀ (a1 a2 : Int32) (X : BX) (M : Mo), Rel X M → ∃ (r : Int32) (X1 : BX) (M1 : Mo), f_X7_seen a1 a2 X = some (r, X1) ∧ f_X8_seen a1 a2 M = some (r, M1) ∧ Rel X1 M1) ∧
  (∀ (X : BX) (M : Mo), Rel X M → ∃ (r : Int32) (X1 : BX) (M1 : Mo), f_X7_forget X = some (r, X1) ∧ f_X8_forget M = some (r, M1) ∧ Rel X1 M1) ∧
  (∀ (a1 : Int32) (X : BX) (M : Mo), Rel X M → ∃ (r : Int32) (M1 : Mo), f_X7_teams N a1 X = some r ∧ f_X8_teams N a1 M = some (r, M1) ∧ Rel X M1) ∧
  (∀ (a1 : Int32) (X : BX) (M : Mo), Rel X M → ∃ (r : Int32) (M1 : Mo), f_X7_teamOf N a1 X = some r ∧ f_X8_teamOf N a1 M = some (r, M1) ∧ Rel X M1) ∧
  (∀ (a1 : Int32) (X : BX) (M : Mo), Rel X M → ∃ (r : Int32) (M1 : Mo), f_X7_count N a1 X = some r ∧ f_X8_count N a1 M = some (r, M1) ∧ Rel X M1)

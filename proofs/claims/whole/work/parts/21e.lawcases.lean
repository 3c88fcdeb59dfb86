set_option maxHeartbeats 4000000 in
set_option maxRecDepth 100000 in
theorem law_rats {p : Program} {l : Launch} {e : Env} {s : State} {m : MethodId} {below : List Frame} {meth : Method} {c : Code} {D : va_G} {cyI cyZ cyT : ClassId} {adK adV qa qb : Nat → Nat} {b L : Nat} {xs : Nat → Int32} {N : Nat} {Rel : BX → Mo → Prop} (C0 : lw_At p s m meth c b L xs) (hK : jK D cyI cyZ cyT s) (hZ : jStr adK adV (fun q : Nat => s.heap.size ≤ q) s s.heap) (x3 : Int32) (hin : ∀ k : Int32, k ≤ 5 → ¬ k < 0 → vp_in (x3 + k) L) (hR : ∀ (a1 : Int32) (X : BX) (M : Mo), Rel X M → ∃ (r : Int32) (M1 : Mo), f_X7_rats N a1 X = some r ∧ f_X8_rats N a1 M = some (r, M1) ∧ Rel X M1) (hk : ∀ (X : BX) (M : Mo), Rel X M → ∀ (H : Heap) (locs : List Loc), va_P D vwCl (wX cyI cyZ cyT qa X ++ wM cyI cyZ qb M) H → va_D (fun q : Nat => s.heap.size ≤ q) (wX cyI cyZ cyT qa X ++ wM cyI cyZ qb M) → va_S (fun q : Nat => s.heap.size ≤ q) s.heap H locs → ∀ (ls : Array Slot), lv_has ls 4 [(0, .ref b), (1, .ref (qa 0)), (2, .ref (qb 0)), (3, .int x3)] → W p l e room_1 s m #[Value.ref b] below meth c H locs 69 819 (lw_Z below #[Value.ref b] s) (F0 m 1098 ls [])) (X : BX) (M : Mo) (hRel : Rel X M) (H : Heap) (locs : List Loc) : va_P D vwCl (wX cyI cyZ cyT qa X ++ wM cyI cyZ qb M) H → va_D (fun q : Nat => s.heap.size ≤ q) (wX cyI cyZ cyT qa X ++ wM cyI cyZ qb M) → va_S (fun q : Nat => s.heap.size ≤ q) s.heap H locs → ∀ (ls : Array Slot), lv_has ls 4 [(0, .ref b), (1, .ref (qa 0)), (2, .ref (qb 0)), (3, .int x3)] → W p l e room_1 s m #[Value.ref b] below meth c H locs 69 819 (lw_Z below #[Value.ref b] s) (F0 m 832 ls []) := by
  obtain ⟨hx, hb, hr, hml, hown, hts, hX, hbl, hlocks, hgv⟩ := C0
  have hts := fun w h => hts w (wsL_law_in w h)
  have hA : ∀ q : Nat, s.heap.size ≤ q → (fun q : Nat => s.heap.size ≤ q) q := fun _ h => h
  have hbA : ¬ (fun q : Nat => s.heap.size ≤ q) b := Nat.not_le.mpr hbl
  intro hP hD hS ls hl
  obtain ⟨r, M1, e1, e2, hRel1⟩ := hR (xs (x3 + 1).toNatClampNeg) X M hRel
  refine lv_aload_n hx hb dL_law_832 rfl (lv_at hl 1 rfl) ?_
  refine lv_aload_n hx hb dL_law_833 rfl (lv_at hl 0 rfl) ?_
  refine lv_iload_n hx hb dL_law_834 rfl (lv_at hl 3 rfl) ?_
  refine lv_iconst (v := 1) hx hb dL_law_835 (by decide) ?_
  refine lv_iadd hx hb dL_law_836 ?_
  refine va_sld hx hb hX hbl hbA hS (hin 1 (by decide) (by decide)) dL_law_837 ?_
  refine jki (jrV (As := [.int (xs (x3 + 1).toNatClampNeg)]) (rest := []) ⟨hx, hb, hml, hown, hts⟩ (c_X7_rats l D cyI cyZ cyT qa N (xs (x3 + 1).toNatClampNeg) X r e1) (cwV 1 hts gL_law_X7_rats rfl rfl rfl (by decide +kernel) ⟨Nat.le_of_ble_eq_true rfl, Nat.le_of_ble_eq_true rfl⟩) hK (jPl hP) rfl 7 0 rfl rfl rfl hl.1 (Nat.le_of_ble_eq_true rfl) dL_law_838 ⟨Nat.le_of_ble_eq_true rfl, Nat.le_of_ble_eq_true rfl⟩) ?_
  refine lv_aload_n hx hb dL_law_841 rfl (lv_at hl 2 rfl) ?_
  refine lv_aload_n hx hb dL_law_842 rfl (lv_at hl 0 rfl) ?_
  refine lv_iload_n hx hb dL_law_843 rfl (lv_at hl 3 rfl) ?_
  refine lv_iconst (v := 1) hx hb dL_law_844 (by decide) ?_
  refine lv_iadd hx hb dL_law_845 ?_
  refine va_sld hx hb hX hbl hbA hS (hin 1 (by decide) (by decide)) dL_law_846 ?_
  refine jgiR (w1 := fun u : Mo => wM cyI cyZ qb u) (wn := wM cyI cyZ qb M1) (jmV (As := [.int (xs (x3 + 1).toNatClampNeg)]) (rest := [.int r]) ⟨hx, hb, hml, hown, hts⟩ (c_X8_rats l D cyI cyZ cyT qb H.size N (xs (x3 + 1).toNatClampNeg) M (r, M1) e2) (cwV 1 hts gL_law_X8_rats rfl rfl rfl (by decide +kernel) ⟨Nat.le_of_ble_eq_true rfl, Nat.le_of_ble_eq_true rfl⟩) hK (jPr hP) (jDr hD) rfl 8 0 rfl rfl rfl hl.1 (Nat.le_of_ble_eq_true rfl) dL_law_847 ⟨Nat.le_of_ble_eq_true rfl, Nat.le_of_ble_eq_true rfl⟩) hP hD hS hA rfl (fun H locs hP hD hS => ?_)
  refine lv_icmp_eq (tgt := 1098) hx hb dL_law_850 (by decide) (fun _ => ?_) (fun c => absurd rfl c)
  exact hk X M1 hRel1 H locs hP hD hS ls hl
set_option maxHeartbeats 4000000 in
set_option maxRecDepth 100000 in
theorem law_shoe {p : Program} {l : Launch} {e : Env} {s : State} {m : MethodId} {below : List Frame} {meth : Method} {c : Code} {D : va_G} {cyI cyZ cyT : ClassId} {adK adV qa qb : Nat → Nat} {b L : Nat} {xs : Nat → Int32} {N : Nat} {Rel : BX → Mo → Prop} (C0 : lw_At p s m meth c b L xs) (hK : jK D cyI cyZ cyT s) (hZ : jStr adK adV (fun q : Nat => s.heap.size ≤ q) s s.heap) (x3 : Int32) (hin : ∀ k : Int32, k ≤ 5 → ¬ k < 0 → vp_in (x3 + k) L) (hR : ∀ (a1 a2 a3 a4 a5 : Int32) (X : BX) (M : Mo), Rel X M → ∃ (r : Int64) (M1 : Mo), f_X7_shoe N a1 a2 a3 a4 a5 X = some r ∧ f_X8_shoe N a1 a2 a3 a4 a5 M = some (r, M1) ∧ Rel X M1) (hk : ∀ (X : BX) (M : Mo), Rel X M → ∀ (H : Heap) (locs : List Loc), va_P D vwCl (wX cyI cyZ cyT qa X ++ wM cyI cyZ qb M) H → va_D (fun q : Nat => s.heap.size ≤ q) (wX cyI cyZ cyT qa X ++ wM cyI cyZ qb M) → va_S (fun q : Nat => s.heap.size ≤ q) s.heap H locs → ∀ (ls : Array Slot), lv_has ls 4 [(0, .ref b), (1, .ref (qa 0)), (2, .ref (qb 0)), (3, .int x3)] → W p l e room_1 s m #[Value.ref b] below meth c H locs 69 819 (lw_Z below #[Value.ref b] s) (F0 m 1098 ls [])) (X : BX) (M : Mo) (hRel : Rel X M) (H : Heap) (locs : List Loc) : va_P D vwCl (wX cyI cyZ cyT qa X ++ wM cyI cyZ qb M) H → va_D (fun q : Nat => s.heap.size ≤ q) (wX cyI cyZ cyT qa X ++ wM cyI cyZ qb M) → va_S (fun q : Nat => s.heap.size ≤ q) s.heap H locs → ∀ (ls : Array Slot), lv_has ls 4 [(0, .ref b), (1, .ref (qa 0)), (2, .ref (qb 0)), (3, .int x3)] → W p l e room_1 s m #[Value.ref b] below meth c H locs 69 819 (lw_Z below #[Value.ref b] s) (F0 m 855 ls []) := by
  obtain ⟨hx, hb, hr, hml, hown, hts, hX, hbl, hlocks, hgv⟩ := C0
  have hts := fun w h => hts w (wsL_law_in w h)
  have hA : ∀ q : Nat, s.heap.size ≤ q → (fun q : Nat => s.heap.size ≤ q) q := fun _ h => h
  have hbA : ¬ (fun q : Nat => s.heap.size ≤ q) b := Nat.not_le.mpr hbl
  intro hP hD hS ls hl
  obtain ⟨r, M1, e1, e2, hRel1⟩ := hR (xs (x3 + 1).toNatClampNeg) (xs (x3 + 2).toNatClampNeg) (xs (x3 + 3).toNatClampNeg) (xs (x3 + 4).toNatClampNeg) (xs (x3 + 5).toNatClampNeg) X M hRel
  refine lv_aload_n hx hb dL_law_855 rfl (lv_at hl 1 rfl) ?_
  refine lv_aload_n hx hb dL_law_856 rfl (lv_at hl 0 rfl) ?_
  refine lv_iload_n hx hb dL_law_857 rfl (lv_at hl 3 rfl) ?_
  refine lv_iconst (v := 1) hx hb dL_law_858 (by decide) ?_
  refine lv_iadd hx hb dL_law_859 ?_
  refine va_sld hx hb hX hbl hbA hS (hin 1 (by decide) (by decide)) dL_law_860 ?_
  refine lv_aload_n hx hb dL_law_861 rfl (lv_at hl 0 rfl) ?_
  refine lv_iload_n hx hb dL_law_862 rfl (lv_at hl 3 rfl) ?_
  refine lv_iconst (v := 2) hx hb dL_law_863 (by decide) ?_
  refine lv_iadd hx hb dL_law_864 ?_
  refine va_sld hx hb hX hbl hbA hS (hin 2 (by decide) (by decide)) dL_law_865 ?_
  refine lv_aload_n hx hb dL_law_866 rfl (lv_at hl 0 rfl) ?_
  refine lv_iload_n hx hb dL_law_867 rfl (lv_at hl 3 rfl) ?_
  refine lv_iconst (v := 3) hx hb dL_law_868 (by decide) ?_
  refine lv_iadd hx hb dL_law_869 ?_
  refine va_sld hx hb hX hbl hbA hS (hin 3 (by decide) (by decide)) dL_law_870 ?_
  refine lv_aload_n hx hb dL_law_871 rfl (lv_at hl 0 rfl) ?_
  refine lv_iload_n hx hb dL_law_872 rfl (lv_at hl 3 rfl) ?_
  refine lv_iconst (v := 4) hx hb dL_law_873 (by decide) ?_
  refine lv_iadd hx hb dL_law_874 ?_
  refine va_sld hx hb hX hbl hbA hS (hin 4 (by decide) (by decide)) dL_law_875 ?_
  refine lv_aload_n hx hb dL_law_876 rfl (lv_at hl 0 rfl) ?_
  refine lv_iload_n hx hb dL_law_877 rfl (lv_at hl 3 rfl) ?_
  refine lv_iconst (v := 5) hx hb dL_law_878 (by decide) ?_
  refine lv_iadd hx hb dL_law_879 ?_
  refine va_sld hx hb hX hbl hbA hS (hin 5 (by decide) (by decide)) dL_law_880 ?_
  refine jkl (jrV (As := [.int (xs (x3 + 1).toNatClampNeg), .int (xs (x3 + 2).toNatClampNeg), .int (xs (x3 + 3).toNatClampNeg), .int (xs (x3 + 4).toNatClampNeg), .int (xs (x3 + 5).toNatClampNeg)]) (rest := []) ⟨hx, hb, hml, hown, hts⟩ (c_X7_shoe l D cyI cyZ cyT qa N (xs (x3 + 1).toNatClampNeg) (xs (x3 + 2).toNatClampNeg) (xs (x3 + 3).toNatClampNeg) (xs (x3 + 4).toNatClampNeg) (xs (x3 + 5).toNatClampNeg) X r e1) (cwV 5 hts gL_law_X7_shoe rfl rfl rfl (by decide +kernel) ⟨Nat.le_of_ble_eq_true rfl, Nat.le_of_ble_eq_true rfl⟩) hK (jPl hP) rfl 7 0 rfl rfl rfl hl.1 (Nat.le_of_ble_eq_true rfl) dL_law_881 ⟨Nat.le_of_ble_eq_true rfl, Nat.le_of_ble_eq_true rfl⟩) ?_
  refine lv_aload_n hx hb dL_law_884 rfl (lv_at hl 2 rfl) ?_
  refine lv_aload_n hx hb dL_law_885 rfl (lv_at hl 0 rfl) ?_
  refine lv_iload_n hx hb dL_law_886 rfl (lv_at hl 3 rfl) ?_
  refine lv_iconst (v := 1) hx hb dL_law_887 (by decide) ?_
  refine lv_iadd hx hb dL_law_888 ?_
  refine va_sld hx hb hX hbl hbA hS (hin 1 (by decide) (by decide)) dL_law_889 ?_
  refine lv_aload_n hx hb dL_law_890 rfl (lv_at hl 0 rfl) ?_
  refine lv_iload_n hx hb dL_law_891 rfl (lv_at hl 3 rfl) ?_
  refine lv_iconst (v := 2) hx hb dL_law_892 (by decide) ?_
  refine lv_iadd hx hb dL_law_893 ?_
  refine va_sld hx hb hX hbl hbA hS (hin 2 (by decide) (by decide)) dL_law_894 ?_
  refine lv_aload_n hx hb dL_law_895 rfl (lv_at hl 0 rfl) ?_
  refine lv_iload_n hx hb dL_law_896 rfl (lv_at hl 3 rfl) ?_
  refine lv_iconst (v := 3) hx hb dL_law_897 (by decide) ?_
  refine lv_iadd hx hb dL_law_898 ?_
  refine va_sld hx hb hX hbl hbA hS (hin 3 (by decide) (by decide)) dL_law_899 ?_
  refine lv_aload_n hx hb dL_law_900 rfl (lv_at hl 0 rfl) ?_
  refine lv_iload_n hx hb dL_law_901 rfl (lv_at hl 3 rfl) ?_
  refine lv_iconst (v := 4) hx hb dL_law_902 (by decide) ?_
  refine lv_iadd hx hb dL_law_903 ?_
  refine va_sld hx hb hX hbl hbA hS (hin 4 (by decide) (by decide)) dL_law_904 ?_
  refine lv_aload_n hx hb dL_law_905 rfl (lv_at hl 0 rfl) ?_
  refine lv_iload_n hx hb dL_law_906 rfl (lv_at hl 3 rfl) ?_
  refine lv_iconst (v := 5) hx hb dL_law_907 (by decide) ?_
  refine lv_iadd hx hb dL_law_908 ?_
  refine va_sld hx hb hX hbl hbA hS (hin 5 (by decide) (by decide)) dL_law_909 ?_
  refine jglR (w1 := fun u : Mo => wM cyI cyZ qb u) (wn := wM cyI cyZ qb M1) (jmV (As := [.int (xs (x3 + 1).toNatClampNeg), .int (xs (x3 + 2).toNatClampNeg), .int (xs (x3 + 3).toNatClampNeg), .int (xs (x3 + 4).toNatClampNeg), .int (xs (x3 + 5).toNatClampNeg)]) (rest := [.long r]) ⟨hx, hb, hml, hown, hts⟩ (c_X8_shoe l D cyI cyZ cyT qb H.size N (xs (x3 + 1).toNatClampNeg) (xs (x3 + 2).toNatClampNeg) (xs (x3 + 3).toNatClampNeg) (xs (x3 + 4).toNatClampNeg) (xs (x3 + 5).toNatClampNeg) M (r, M1) e2) (cwV 5 hts gL_law_X8_shoe rfl rfl rfl (by decide +kernel) ⟨Nat.le_of_ble_eq_true rfl, Nat.le_of_ble_eq_true rfl⟩) hK (jPr hP) (jDr hD) rfl 8 0 rfl rfl rfl hl.1 (Nat.le_of_ble_eq_true rfl) dL_law_910 ⟨Nat.le_of_ble_eq_true rfl, Nat.le_of_ble_eq_true rfl⟩) hP hD hS hA rfl (fun H locs hP hD hS => ?_)
  refine W.lcmp hx hb dL_law_913 ?_
  refine lv_if_eq (tgt := 1098) hx hb dL_law_914 (by decide) (fun _ => ?_) (fun c => absurd ((lg_cmp_eq _ _).mpr rfl) c)
  exact hk X M1 hRel1 H locs hP hD hS ls hl
set_option maxHeartbeats 4000000 in
set_option maxRecDepth 100000 in
theorem law_callOff {p : Program} {l : Launch} {e : Env} {s : State} {m : MethodId} {below : List Frame} {meth : Method} {c : Code} {D : va_G} {cyI cyZ cyT : ClassId} {adK adV qa qb : Nat → Nat} {b L : Nat} {xs : Nat → Int32} {N : Nat} {Rel : BX → Mo → Prop} (C0 : lw_At p s m meth c b L xs) (hK : jK D cyI cyZ cyT s) (hZ : jStr adK adV (fun q : Nat => s.heap.size ≤ q) s s.heap) (x3 : Int32) (hin : ∀ k : Int32, k ≤ 5 → ¬ k < 0 → vp_in (x3 + k) L) (hR : ∀ (a1 a2 a3 a4 a5 : Int32) (X : BX) (M : Mo), Rel X M → ∃ (r : Int64) (M1 : Mo), f_X7_callOff N a1 a2 a3 a4 a5 X = some r ∧ f_X8_callOff N a1 a2 a3 a4 a5 M = some (r, M1) ∧ Rel X M1) (hk : ∀ (X : BX) (M : Mo), Rel X M → ∀ (H : Heap) (locs : List Loc), va_P D vwCl (wX cyI cyZ cyT qa X ++ wM cyI cyZ qb M) H → va_D (fun q : Nat => s.heap.size ≤ q) (wX cyI cyZ cyT qa X ++ wM cyI cyZ qb M) → va_S (fun q : Nat => s.heap.size ≤ q) s.heap H locs → ∀ (ls : Array Slot), lv_has ls 4 [(0, .ref b), (1, .ref (qa 0)), (2, .ref (qb 0)), (3, .int x3)] → W p l e room_1 s m #[Value.ref b] below meth c H locs 69 819 (lw_Z below #[Value.ref b] s) (F0 m 1098 ls [])) (X : BX) (M : Mo) (hRel : Rel X M) (H : Heap) (locs : List Loc) : va_P D vwCl (wX cyI cyZ cyT qa X ++ wM cyI cyZ qb M) H → va_D (fun q : Nat => s.heap.size ≤ q) (wX cyI cyZ cyT qa X ++ wM cyI cyZ qb M) → va_S (fun q : Nat => s.heap.size ≤ q) s.heap H locs → ∀ (ls : Array Slot), lv_has ls 4 [(0, .ref b), (1, .ref (qa 0)), (2, .ref (qb 0)), (3, .int x3)] → W p l e room_1 s m #[Value.ref b] below meth c H locs 69 819 (lw_Z below #[Value.ref b] s) (F0 m 919 ls []) := by
  obtain ⟨hx, hb, hr, hml, hown, hts, hX, hbl, hlocks, hgv⟩ := C0
  have hts := fun w h => hts w (wsL_law_in w h)
  have hA : ∀ q : Nat, s.heap.size ≤ q → (fun q : Nat => s.heap.size ≤ q) q := fun _ h => h
  have hbA : ¬ (fun q : Nat => s.heap.size ≤ q) b := Nat.not_le.mpr hbl
  intro hP hD hS ls hl
  obtain ⟨r, M1, e1, e2, hRel1⟩ := hR (xs (x3 + 1).toNatClampNeg) (xs (x3 + 2).toNatClampNeg) (xs (x3 + 3).toNatClampNeg) (xs (x3 + 4).toNatClampNeg) (xs (x3 + 5).toNatClampNeg) X M hRel
  refine lv_aload_n hx hb dL_law_919 rfl (lv_at hl 1 rfl) ?_
  refine lv_aload_n hx hb dL_law_920 rfl (lv_at hl 0 rfl) ?_
  refine lv_iload_n hx hb dL_law_921 rfl (lv_at hl 3 rfl) ?_
  refine lv_iconst (v := 1) hx hb dL_law_922 (by decide) ?_
  refine lv_iadd hx hb dL_law_923 ?_
  refine va_sld hx hb hX hbl hbA hS (hin 1 (by decide) (by decide)) dL_law_924 ?_
  refine lv_aload_n hx hb dL_law_925 rfl (lv_at hl 0 rfl) ?_
  refine lv_iload_n hx hb dL_law_926 rfl (lv_at hl 3 rfl) ?_
  refine lv_iconst (v := 2) hx hb dL_law_927 (by decide) ?_
  refine lv_iadd hx hb dL_law_928 ?_
  refine va_sld hx hb hX hbl hbA hS (hin 2 (by decide) (by decide)) dL_law_929 ?_
  refine lv_aload_n hx hb dL_law_930 rfl (lv_at hl 0 rfl) ?_
  refine lv_iload_n hx hb dL_law_931 rfl (lv_at hl 3 rfl) ?_
  refine lv_iconst (v := 3) hx hb dL_law_932 (by decide) ?_
  refine lv_iadd hx hb dL_law_933 ?_
  refine va_sld hx hb hX hbl hbA hS (hin 3 (by decide) (by decide)) dL_law_934 ?_
  refine lv_aload_n hx hb dL_law_935 rfl (lv_at hl 0 rfl) ?_
  refine lv_iload_n hx hb dL_law_936 rfl (lv_at hl 3 rfl) ?_
  refine lv_iconst (v := 4) hx hb dL_law_937 (by decide) ?_
  refine lv_iadd hx hb dL_law_938 ?_
  refine va_sld hx hb hX hbl hbA hS (hin 4 (by decide) (by decide)) dL_law_939 ?_
  refine lv_aload_n hx hb dL_law_940 rfl (lv_at hl 0 rfl) ?_
  refine lv_iload_n hx hb dL_law_941 rfl (lv_at hl 3 rfl) ?_
  refine lv_iconst (v := 5) hx hb dL_law_942 (by decide) ?_
  refine lv_iadd hx hb dL_law_943 ?_
  refine va_sld hx hb hX hbl hbA hS (hin 5 (by decide) (by decide)) dL_law_944 ?_
  refine jkl (jrV (As := [.int (xs (x3 + 1).toNatClampNeg), .int (xs (x3 + 2).toNatClampNeg), .int (xs (x3 + 3).toNatClampNeg), .int (xs (x3 + 4).toNatClampNeg), .int (xs (x3 + 5).toNatClampNeg)]) (rest := []) ⟨hx, hb, hml, hown, hts⟩ (c_X7_callOff l D cyI cyZ cyT qa N (xs (x3 + 1).toNatClampNeg) (xs (x3 + 2).toNatClampNeg) (xs (x3 + 3).toNatClampNeg) (xs (x3 + 4).toNatClampNeg) (xs (x3 + 5).toNatClampNeg) X r e1) (cwV 5 hts gL_law_X7_callOff rfl rfl rfl (by decide +kernel) ⟨Nat.le_of_ble_eq_true rfl, Nat.le_of_ble_eq_true rfl⟩) hK (jPl hP) rfl 7 0 rfl rfl rfl hl.1 (Nat.le_of_ble_eq_true rfl) dL_law_945 ⟨Nat.le_of_ble_eq_true rfl, Nat.le_of_ble_eq_true rfl⟩) ?_
  refine lv_aload_n hx hb dL_law_948 rfl (lv_at hl 2 rfl) ?_
  refine lv_aload_n hx hb dL_law_949 rfl (lv_at hl 0 rfl) ?_
  refine lv_iload_n hx hb dL_law_950 rfl (lv_at hl 3 rfl) ?_
  refine lv_iconst (v := 1) hx hb dL_law_951 (by decide) ?_
  refine lv_iadd hx hb dL_law_952 ?_
  refine va_sld hx hb hX hbl hbA hS (hin 1 (by decide) (by decide)) dL_law_953 ?_
  refine lv_aload_n hx hb dL_law_954 rfl (lv_at hl 0 rfl) ?_
  refine lv_iload_n hx hb dL_law_955 rfl (lv_at hl 3 rfl) ?_
  refine lv_iconst (v := 2) hx hb dL_law_956 (by decide) ?_
  refine lv_iadd hx hb dL_law_957 ?_
  refine va_sld hx hb hX hbl hbA hS (hin 2 (by decide) (by decide)) dL_law_958 ?_
  refine lv_aload_n hx hb dL_law_959 rfl (lv_at hl 0 rfl) ?_
  refine lv_iload_n hx hb dL_law_960 rfl (lv_at hl 3 rfl) ?_
  refine lv_iconst (v := 3) hx hb dL_law_961 (by decide) ?_
  refine lv_iadd hx hb dL_law_962 ?_
  refine va_sld hx hb hX hbl hbA hS (hin 3 (by decide) (by decide)) dL_law_963 ?_
  refine lv_aload_n hx hb dL_law_964 rfl (lv_at hl 0 rfl) ?_
  refine lv_iload_n hx hb dL_law_965 rfl (lv_at hl 3 rfl) ?_
  refine lv_iconst (v := 4) hx hb dL_law_966 (by decide) ?_
  refine lv_iadd hx hb dL_law_967 ?_
  refine va_sld hx hb hX hbl hbA hS (hin 4 (by decide) (by decide)) dL_law_968 ?_
  refine lv_aload_n hx hb dL_law_969 rfl (lv_at hl 0 rfl) ?_
  refine lv_iload_n hx hb dL_law_970 rfl (lv_at hl 3 rfl) ?_
  refine lv_iconst (v := 5) hx hb dL_law_971 (by decide) ?_
  refine lv_iadd hx hb dL_law_972 ?_
  refine va_sld hx hb hX hbl hbA hS (hin 5 (by decide) (by decide)) dL_law_973 ?_
  refine jglR (w1 := fun u : Mo => wM cyI cyZ qb u) (wn := wM cyI cyZ qb M1) (jmV (As := [.int (xs (x3 + 1).toNatClampNeg), .int (xs (x3 + 2).toNatClampNeg), .int (xs (x3 + 3).toNatClampNeg), .int (xs (x3 + 4).toNatClampNeg), .int (xs (x3 + 5).toNatClampNeg)]) (rest := [.long r]) ⟨hx, hb, hml, hown, hts⟩ (c_X8_callOff l D cyI cyZ cyT qb H.size N (xs (x3 + 1).toNatClampNeg) (xs (x3 + 2).toNatClampNeg) (xs (x3 + 3).toNatClampNeg) (xs (x3 + 4).toNatClampNeg) (xs (x3 + 5).toNatClampNeg) M (r, M1) e2) (cwV 5 hts gL_law_X8_callOff rfl rfl rfl (by decide +kernel) ⟨Nat.le_of_ble_eq_true rfl, Nat.le_of_ble_eq_true rfl⟩) hK (jPr hP) (jDr hD) rfl 8 0 rfl rfl rfl hl.1 (Nat.le_of_ble_eq_true rfl) dL_law_974 ⟨Nat.le_of_ble_eq_true rfl, Nat.le_of_ble_eq_true rfl⟩) hP hD hS hA rfl (fun H locs hP hD hS => ?_)
  refine W.lcmp hx hb dL_law_977 ?_
  refine lv_if_eq (tgt := 1098) hx hb dL_law_978 (by decide) (fun _ => ?_) (fun c => absurd ((lg_cmp_eq _ _).mpr rfl) c)
  exact hk X M1 hRel1 H locs hP hD hS ls hl
set_option maxHeartbeats 4000000 in
set_option maxRecDepth 100000 in
theorem law_seen {p : Program} {l : Launch} {e : Env} {s : State} {m : MethodId} {below : List Frame} {meth : Method} {c : Code} {D : va_G} {cyI cyZ cyT : ClassId} {adK adV qa qb : Nat → Nat} {b L : Nat} {xs : Nat → Int32} {N : Nat} {Rel : BX → Mo → Prop} (C0 : lw_At p s m meth c b L xs) (hK : jK D cyI cyZ cyT s) (hZ : jStr adK adV (fun q : Nat => s.heap.size ≤ q) s s.heap) (x3 : Int32) (hin : ∀ k : Int32, k ≤ 5 → ¬ k < 0 → vp_in (x3 + k) L) (hR : ∀ (a1 a2 : Int32) (X : BX) (M : Mo), Rel X M → ∃ (r : Int32) (X1 : BX) (M1 : Mo), f_X7_seen a1 a2 X = some (r, X1) ∧ f_X8_seen a1 a2 M = some (r, M1) ∧ Rel X1 M1) (hk : ∀ (X : BX) (M : Mo), Rel X M → ∀ (H : Heap) (locs : List Loc), va_P D vwCl (wX cyI cyZ cyT qa X ++ wM cyI cyZ qb M) H → va_D (fun q : Nat => s.heap.size ≤ q) (wX cyI cyZ cyT qa X ++ wM cyI cyZ qb M) → va_S (fun q : Nat => s.heap.size ≤ q) s.heap H locs → ∀ (ls : Array Slot), lv_has ls 4 [(0, .ref b), (1, .ref (qa 0)), (2, .ref (qb 0)), (3, .int x3)] → W p l e room_1 s m #[Value.ref b] below meth c H locs 69 819 (lw_Z below #[Value.ref b] s) (F0 m 1098 ls [])) (X : BX) (M : Mo) (hRel : Rel X M) (H : Heap) (locs : List Loc) : va_P D vwCl (wX cyI cyZ cyT qa X ++ wM cyI cyZ qb M) H → va_D (fun q : Nat => s.heap.size ≤ q) (wX cyI cyZ cyT qa X ++ wM cyI cyZ qb M) → va_S (fun q : Nat => s.heap.size ≤ q) s.heap H locs → ∀ (ls : Array Slot), lv_has ls 4 [(0, .ref b), (1, .ref (qa 0)), (2, .ref (qb 0)), (3, .int x3)] → W p l e room_1 s m #[Value.ref b] below meth c H locs 69 819 (lw_Z below #[Value.ref b] s) (F0 m 983 ls []) := by
  obtain ⟨hx, hb, hr, hml, hown, hts, hX, hbl, hlocks, hgv⟩ := C0
  have hts := fun w h => hts w (wsL_law_in w h)
  have hA : ∀ q : Nat, s.heap.size ≤ q → (fun q : Nat => s.heap.size ≤ q) q := fun _ h => h
  have hbA : ¬ (fun q : Nat => s.heap.size ≤ q) b := Nat.not_le.mpr hbl
  intro hP hD hS ls hl
  obtain ⟨r, X1, M1, e1, e2, hRel1⟩ := hR (xs (x3 + 1).toNatClampNeg) (xs (x3 + 2).toNatClampNeg) X M hRel
  refine lv_aload_n hx hb dL_law_983 rfl (lv_at hl 1 rfl) ?_
  refine lv_aload_n hx hb dL_law_984 rfl (lv_at hl 0 rfl) ?_
  refine lv_iload_n hx hb dL_law_985 rfl (lv_at hl 3 rfl) ?_
  refine lv_iconst (v := 1) hx hb dL_law_986 (by decide) ?_
  refine lv_iadd hx hb dL_law_987 ?_
  refine va_sld hx hb hX hbl hbA hS (hin 1 (by decide) (by decide)) dL_law_988 ?_
  refine lv_aload_n hx hb dL_law_989 rfl (lv_at hl 0 rfl) ?_
  refine lv_iload_n hx hb dL_law_990 rfl (lv_at hl 3 rfl) ?_
  refine lv_iconst (v := 2) hx hb dL_law_991 (by decide) ?_
  refine lv_iadd hx hb dL_law_992 ?_
  refine va_sld hx hb hX hbl hbA hS (hin 2 (by decide) (by decide)) dL_law_993 ?_
  refine jgiL (w1 := fun u : BX => wX cyI cyZ cyT qa u) (wn := wX cyI cyZ cyT qa X1) (jmV (As := [.int (xs (x3 + 1).toNatClampNeg), .int (xs (x3 + 2).toNatClampNeg)]) (rest := []) ⟨hx, hb, hml, hown, hts⟩ (c_X7_seen l D cyI cyZ cyT qa H.size (xs (x3 + 1).toNatClampNeg) (xs (x3 + 2).toNatClampNeg) X (r, X1) e1) (cwV 2 hts gL_law_X7_seen rfl rfl rfl (by decide +kernel) ⟨Nat.le_of_ble_eq_true rfl, Nat.le_of_ble_eq_true rfl⟩) hK (jPl hP) (jDl hD) rfl 7 0 rfl rfl rfl hl.1 (Nat.le_of_ble_eq_true rfl) dL_law_994 ⟨Nat.le_of_ble_eq_true rfl, Nat.le_of_ble_eq_true rfl⟩) hP hD hS hA rfl (fun H locs hP hD hS => ?_)
  refine lv_aload_n hx hb dL_law_997 rfl (lv_at hl 2 rfl) ?_
  refine lv_aload_n hx hb dL_law_998 rfl (lv_at hl 0 rfl) ?_
  refine lv_iload_n hx hb dL_law_999 rfl (lv_at hl 3 rfl) ?_
  refine lv_iconst (v := 1) hx hb dL_law_1000 (by decide) ?_
  refine lv_iadd hx hb dL_law_1001 ?_
  refine va_sld hx hb hX hbl hbA hS (hin 1 (by decide) (by decide)) dL_law_1002 ?_
  refine lv_aload_n hx hb dL_law_1003 rfl (lv_at hl 0 rfl) ?_
  refine lv_iload_n hx hb dL_law_1004 rfl (lv_at hl 3 rfl) ?_
  refine lv_iconst (v := 2) hx hb dL_law_1005 (by decide) ?_
  refine lv_iadd hx hb dL_law_1006 ?_
  refine va_sld hx hb hX hbl hbA hS (hin 2 (by decide) (by decide)) dL_law_1007 ?_
  refine jgiR (w1 := fun u : Mo => wM cyI cyZ qb u) (wn := wM cyI cyZ qb M1) (jmV (As := [.int (xs (x3 + 1).toNatClampNeg), .int (xs (x3 + 2).toNatClampNeg)]) (rest := [.int (r, X1).1]) ⟨hx, hb, hml, hown, hts⟩ (c_X8_seen l D cyI cyZ cyT qb H.size (xs (x3 + 1).toNatClampNeg) (xs (x3 + 2).toNatClampNeg) M (r, M1) e2) (cwV 2 hts gL_law_X8_seen rfl rfl rfl (by decide +kernel) ⟨Nat.le_of_ble_eq_true rfl, Nat.le_of_ble_eq_true rfl⟩) hK (jPr hP) (jDr hD) rfl 8 0 rfl rfl rfl hl.1 (Nat.le_of_ble_eq_true rfl) dL_law_1008 ⟨Nat.le_of_ble_eq_true rfl, Nat.le_of_ble_eq_true rfl⟩) hP hD hS hA rfl (fun H locs hP hD hS => ?_)
  refine lv_icmp_eq (tgt := 1098) hx hb dL_law_1011 (by decide) (fun _ => ?_) (fun c => absurd rfl c)
  exact hk X1 M1 hRel1 H locs hP hD hS ls hl
set_option maxHeartbeats 4000000 in
set_option maxRecDepth 100000 in
theorem law_forget {p : Program} {l : Launch} {e : Env} {s : State} {m : MethodId} {below : List Frame} {meth : Method} {c : Code} {D : va_G} {cyI cyZ cyT : ClassId} {adK adV qa qb : Nat → Nat} {b L : Nat} {xs : Nat → Int32} {N : Nat} {Rel : BX → Mo → Prop} (C0 : lw_At p s m meth c b L xs) (hK : jK D cyI cyZ cyT s) (hZ : jStr adK adV (fun q : Nat => s.heap.size ≤ q) s s.heap) (x3 : Int32) (hin : ∀ k : Int32, k ≤ 5 → ¬ k < 0 → vp_in (x3 + k) L) (hR : ∀ (X : BX) (M : Mo), Rel X M → ∃ (r : Int32) (X1 : BX) (M1 : Mo), f_X7_forget X = some (r, X1) ∧ f_X8_forget M = some (r, M1) ∧ Rel X1 M1) (hk : ∀ (X : BX) (M : Mo), Rel X M → ∀ (H : Heap) (locs : List Loc), va_P D vwCl (wX cyI cyZ cyT qa X ++ wM cyI cyZ qb M) H → va_D (fun q : Nat => s.heap.size ≤ q) (wX cyI cyZ cyT qa X ++ wM cyI cyZ qb M) → va_S (fun q : Nat => s.heap.size ≤ q) s.heap H locs → ∀ (ls : Array Slot), lv_has ls 4 [(0, .ref b), (1, .ref (qa 0)), (2, .ref (qb 0)), (3, .int x3)] → W p l e room_1 s m #[Value.ref b] below meth c H locs 69 819 (lw_Z below #[Value.ref b] s) (F0 m 1098 ls [])) (X : BX) (M : Mo) (hRel : Rel X M) (H : Heap) (locs : List Loc) : va_P D vwCl (wX cyI cyZ cyT qa X ++ wM cyI cyZ qb M) H → va_D (fun q : Nat => s.heap.size ≤ q) (wX cyI cyZ cyT qa X ++ wM cyI cyZ qb M) → va_S (fun q : Nat => s.heap.size ≤ q) s.heap H locs → ∀ (ls : Array Slot), lv_has ls 4 [(0, .ref b), (1, .ref (qa 0)), (2, .ref (qb 0)), (3, .int x3)] → W p l e room_1 s m #[Value.ref b] below meth c H locs 69 819 (lw_Z below #[Value.ref b] s) (F0 m 1016 ls []) := by
  obtain ⟨hx, hb, hr, hml, hown, hts, hX, hbl, hlocks, hgv⟩ := C0
  have hts := fun w h => hts w (wsL_law_in w h)
  have hA : ∀ q : Nat, s.heap.size ≤ q → (fun q : Nat => s.heap.size ≤ q) q := fun _ h => h
  have hbA : ¬ (fun q : Nat => s.heap.size ≤ q) b := Nat.not_le.mpr hbl
  intro hP hD hS ls hl
  obtain ⟨r, X1, M1, e1, e2, hRel1⟩ := hR  X M hRel
  refine lv_aload_n hx hb dL_law_1016 rfl (lv_at hl 1 rfl) ?_
  refine jgiL (w1 := fun u : BX => wX cyI cyZ cyT qa u) (wn := wX cyI cyZ cyT qa X1) (jmV (As := []) (rest := []) ⟨hx, hb, hml, hown, hts⟩ (c_X7_forget l D cyI cyZ cyT qa H.size X (r, X1) e1) (cwV 0 hts gL_law_X7_forget rfl rfl rfl (by decide +kernel) ⟨Nat.le_of_ble_eq_true rfl, Nat.le_of_ble_eq_true rfl⟩) hK (jPl hP) (jDl hD) rfl 7 0 rfl rfl rfl hl.1 (Nat.le_of_ble_eq_true rfl) dL_law_1017 ⟨Nat.le_of_ble_eq_true rfl, Nat.le_of_ble_eq_true rfl⟩) hP hD hS hA rfl (fun H locs hP hD hS => ?_)
  refine lv_aload_n hx hb dL_law_1020 rfl (lv_at hl 2 rfl) ?_
  refine jgiR (w1 := fun u : Mo => wM cyI cyZ qb u) (wn := wM cyI cyZ qb M1) (jmV (As := []) (rest := [.int (r, X1).1]) ⟨hx, hb, hml, hown, hts⟩ (c_X8_forget l D cyI cyZ cyT qb H.size M (r, M1) e2) (cwV 0 hts gL_law_X8_forget rfl rfl rfl (by decide +kernel) ⟨Nat.le_of_ble_eq_true rfl, Nat.le_of_ble_eq_true rfl⟩) hK (jPr hP) (jDr hD) rfl 8 0 rfl rfl rfl hl.1 (Nat.le_of_ble_eq_true rfl) dL_law_1021 ⟨Nat.le_of_ble_eq_true rfl, Nat.le_of_ble_eq_true rfl⟩) hP hD hS hA rfl (fun H locs hP hD hS => ?_)
  refine lv_icmp_eq (tgt := 1098) hx hb dL_law_1024 (by decide) (fun _ => ?_) (fun c => absurd rfl c)
  exact hk X1 M1 hRel1 H locs hP hD hS ls hl
set_option maxHeartbeats 4000000 in
set_option maxRecDepth 100000 in
theorem law_teams {p : Program} {l : Launch} {e : Env} {s : State} {m : MethodId} {below : List Frame} {meth : Method} {c : Code} {D : va_G} {cyI cyZ cyT : ClassId} {adK adV qa qb : Nat → Nat} {b L : Nat} {xs : Nat → Int32} {N : Nat} {Rel : BX → Mo → Prop} (C0 : lw_At p s m meth c b L xs) (hK : jK D cyI cyZ cyT s) (hZ : jStr adK adV (fun q : Nat => s.heap.size ≤ q) s s.heap) (x3 : Int32) (hin : ∀ k : Int32, k ≤ 5 → ¬ k < 0 → vp_in (x3 + k) L) (hR : ∀ (a1 : Int32) (X : BX) (M : Mo), Rel X M → ∃ (r : Int32) (M1 : Mo), f_X7_teams N a1 X = some r ∧ f_X8_teams N a1 M = some (r, M1) ∧ Rel X M1) (hk : ∀ (X : BX) (M : Mo), Rel X M → ∀ (H : Heap) (locs : List Loc), va_P D vwCl (wX cyI cyZ cyT qa X ++ wM cyI cyZ qb M) H → va_D (fun q : Nat => s.heap.size ≤ q) (wX cyI cyZ cyT qa X ++ wM cyI cyZ qb M) → va_S (fun q : Nat => s.heap.size ≤ q) s.heap H locs → ∀ (ls : Array Slot), lv_has ls 4 [(0, .ref b), (1, .ref (qa 0)), (2, .ref (qb 0)), (3, .int x3)] → W p l e room_1 s m #[Value.ref b] below meth c H locs 69 819 (lw_Z below #[Value.ref b] s) (F0 m 1098 ls [])) (X : BX) (M : Mo) (hRel : Rel X M) (H : Heap) (locs : List Loc) : va_P D vwCl (wX cyI cyZ cyT qa X ++ wM cyI cyZ qb M) H → va_D (fun q : Nat => s.heap.size ≤ q) (wX cyI cyZ cyT qa X ++ wM cyI cyZ qb M) → va_S (fun q : Nat => s.heap.size ≤ q) s.heap H locs → ∀ (ls : Array Slot), lv_has ls 4 [(0, .ref b), (1, .ref (qa 0)), (2, .ref (qb 0)), (3, .int x3)] → W p l e room_1 s m #[Value.ref b] below meth c H locs 69 819 (lw_Z below #[Value.ref b] s) (F0 m 1029 ls []) := by
  obtain ⟨hx, hb, hr, hml, hown, hts, hX, hbl, hlocks, hgv⟩ := C0
  have hts := fun w h => hts w (wsL_law_in w h)
  have hA : ∀ q : Nat, s.heap.size ≤ q → (fun q : Nat => s.heap.size ≤ q) q := fun _ h => h
  have hbA : ¬ (fun q : Nat => s.heap.size ≤ q) b := Nat.not_le.mpr hbl
  intro hP hD hS ls hl
  obtain ⟨r, M1, e1, e2, hRel1⟩ := hR (xs (x3 + 1).toNatClampNeg) X M hRel
  refine lv_aload_n hx hb dL_law_1029 rfl (lv_at hl 1 rfl) ?_
  refine lv_aload_n hx hb dL_law_1030 rfl (lv_at hl 0 rfl) ?_
  refine lv_iload_n hx hb dL_law_1031 rfl (lv_at hl 3 rfl) ?_
  refine lv_iconst (v := 1) hx hb dL_law_1032 (by decide) ?_
  refine lv_iadd hx hb dL_law_1033 ?_
  refine va_sld hx hb hX hbl hbA hS (hin 1 (by decide) (by decide)) dL_law_1034 ?_
  refine jki (jrV (As := [.int (xs (x3 + 1).toNatClampNeg)]) (rest := []) ⟨hx, hb, hml, hown, hts⟩ (c_X7_teams l D cyI cyZ cyT qa N (xs (x3 + 1).toNatClampNeg) X r e1) (cwV 1 hts gL_law_X7_teams rfl rfl rfl (by decide +kernel) ⟨Nat.le_of_ble_eq_true rfl, Nat.le_of_ble_eq_true rfl⟩) hK (jPl hP) rfl 7 0 rfl rfl rfl hl.1 (Nat.le_of_ble_eq_true rfl) dL_law_1035 ⟨Nat.le_of_ble_eq_true rfl, Nat.le_of_ble_eq_true rfl⟩) ?_
  refine lv_aload_n hx hb dL_law_1038 rfl (lv_at hl 2 rfl) ?_
  refine lv_aload_n hx hb dL_law_1039 rfl (lv_at hl 0 rfl) ?_
  refine lv_iload_n hx hb dL_law_1040 rfl (lv_at hl 3 rfl) ?_
  refine lv_iconst (v := 1) hx hb dL_law_1041 (by decide) ?_
  refine lv_iadd hx hb dL_law_1042 ?_
  refine va_sld hx hb hX hbl hbA hS (hin 1 (by decide) (by decide)) dL_law_1043 ?_
  refine jgiR (w1 := fun u : Mo => wM cyI cyZ qb u) (wn := wM cyI cyZ qb M1) (jmV (As := [.int (xs (x3 + 1).toNatClampNeg)]) (rest := [.int r]) ⟨hx, hb, hml, hown, hts⟩ (c_X8_teams l D cyI cyZ cyT qb H.size N (xs (x3 + 1).toNatClampNeg) M (r, M1) e2) (cwV 1 hts gL_law_X8_teams rfl rfl rfl (by decide +kernel) ⟨Nat.le_of_ble_eq_true rfl, Nat.le_of_ble_eq_true rfl⟩) hK (jPr hP) (jDr hD) rfl 8 0 rfl rfl rfl hl.1 (Nat.le_of_ble_eq_true rfl) dL_law_1044 ⟨Nat.le_of_ble_eq_true rfl, Nat.le_of_ble_eq_true rfl⟩) hP hD hS hA rfl (fun H locs hP hD hS => ?_)
  refine lv_icmp_eq (tgt := 1098) hx hb dL_law_1047 (by decide) (fun _ => ?_) (fun c => absurd rfl c)
  exact hk X M1 hRel1 H locs hP hD hS ls hl
set_option maxHeartbeats 4000000 in
set_option maxRecDepth 100000 in
theorem law_teamOf {p : Program} {l : Launch} {e : Env} {s : State} {m : MethodId} {below : List Frame} {meth : Method} {c : Code} {D : va_G} {cyI cyZ cyT : ClassId} {adK adV qa qb : Nat → Nat} {b L : Nat} {xs : Nat → Int32} {N : Nat} {Rel : BX → Mo → Prop} (C0 : lw_At p s m meth c b L xs) (hK : jK D cyI cyZ cyT s) (hZ : jStr adK adV (fun q : Nat => s.heap.size ≤ q) s s.heap) (x3 : Int32) (hin : ∀ k : Int32, k ≤ 5 → ¬ k < 0 → vp_in (x3 + k) L) (hR : ∀ (a1 : Int32) (X : BX) (M : Mo), Rel X M → ∃ (r : Int32) (M1 : Mo), f_X7_teamOf N a1 X = some r ∧ f_X8_teamOf N a1 M = some (r, M1) ∧ Rel X M1) (hk : ∀ (X : BX) (M : Mo), Rel X M → ∀ (H : Heap) (locs : List Loc), va_P D vwCl (wX cyI cyZ cyT qa X ++ wM cyI cyZ qb M) H → va_D (fun q : Nat => s.heap.size ≤ q) (wX cyI cyZ cyT qa X ++ wM cyI cyZ qb M) → va_S (fun q : Nat => s.heap.size ≤ q) s.heap H locs → ∀ (ls : Array Slot), lv_has ls 4 [(0, .ref b), (1, .ref (qa 0)), (2, .ref (qb 0)), (3, .int x3)] → W p l e room_1 s m #[Value.ref b] below meth c H locs 69 819 (lw_Z below #[Value.ref b] s) (F0 m 1098 ls [])) (X : BX) (M : Mo) (hRel : Rel X M) (H : Heap) (locs : List Loc) : va_P D vwCl (wX cyI cyZ cyT qa X ++ wM cyI cyZ qb M) H → va_D (fun q : Nat => s.heap.size ≤ q) (wX cyI cyZ cyT qa X ++ wM cyI cyZ qb M) → va_S (fun q : Nat => s.heap.size ≤ q) s.heap H locs → ∀ (ls : Array Slot), lv_has ls 4 [(0, .ref b), (1, .ref (qa 0)), (2, .ref (qb 0)), (3, .int x3)] → W p l e room_1 s m #[Value.ref b] below meth c H locs 69 819 (lw_Z below #[Value.ref b] s) (F0 m 1052 ls []) := by
  obtain ⟨hx, hb, hr, hml, hown, hts, hX, hbl, hlocks, hgv⟩ := C0
  have hts := fun w h => hts w (wsL_law_in w h)
  have hA : ∀ q : Nat, s.heap.size ≤ q → (fun q : Nat => s.heap.size ≤ q) q := fun _ h => h
  have hbA : ¬ (fun q : Nat => s.heap.size ≤ q) b := Nat.not_le.mpr hbl
  intro hP hD hS ls hl
  obtain ⟨r, M1, e1, e2, hRel1⟩ := hR (xs (x3 + 1).toNatClampNeg) X M hRel
  refine lv_aload_n hx hb dL_law_1052 rfl (lv_at hl 1 rfl) ?_
  refine lv_aload_n hx hb dL_law_1053 rfl (lv_at hl 0 rfl) ?_
  refine lv_iload_n hx hb dL_law_1054 rfl (lv_at hl 3 rfl) ?_
  refine lv_iconst (v := 1) hx hb dL_law_1055 (by decide) ?_
  refine lv_iadd hx hb dL_law_1056 ?_
  refine va_sld hx hb hX hbl hbA hS (hin 1 (by decide) (by decide)) dL_law_1057 ?_
  refine jki (jrV (As := [.int (xs (x3 + 1).toNatClampNeg)]) (rest := []) ⟨hx, hb, hml, hown, hts⟩ (c_X7_teamOf l D cyI cyZ cyT qa N (xs (x3 + 1).toNatClampNeg) X r e1) (cwV 1 hts gL_law_X7_teamOf rfl rfl rfl (by decide +kernel) ⟨Nat.le_of_ble_eq_true rfl, Nat.le_of_ble_eq_true rfl⟩) hK (jPl hP) rfl 7 0 rfl rfl rfl hl.1 (Nat.le_of_ble_eq_true rfl) dL_law_1058 ⟨Nat.le_of_ble_eq_true rfl, Nat.le_of_ble_eq_true rfl⟩) ?_
  refine lv_aload_n hx hb dL_law_1061 rfl (lv_at hl 2 rfl) ?_
  refine lv_aload_n hx hb dL_law_1062 rfl (lv_at hl 0 rfl) ?_
  refine lv_iload_n hx hb dL_law_1063 rfl (lv_at hl 3 rfl) ?_
  refine lv_iconst (v := 1) hx hb dL_law_1064 (by decide) ?_
  refine lv_iadd hx hb dL_law_1065 ?_
  refine va_sld hx hb hX hbl hbA hS (hin 1 (by decide) (by decide)) dL_law_1066 ?_
  refine jgiR (w1 := fun u : Mo => wM cyI cyZ qb u) (wn := wM cyI cyZ qb M1) (jmV (As := [.int (xs (x3 + 1).toNatClampNeg)]) (rest := [.int r]) ⟨hx, hb, hml, hown, hts⟩ (c_X8_teamOf l D cyI cyZ cyT qb H.size N (xs (x3 + 1).toNatClampNeg) M (r, M1) e2) (cwV 1 hts gL_law_X8_teamOf rfl rfl rfl (by decide +kernel) ⟨Nat.le_of_ble_eq_true rfl, Nat.le_of_ble_eq_true rfl⟩) hK (jPr hP) (jDr hD) rfl 8 0 rfl rfl rfl hl.1 (Nat.le_of_ble_eq_true rfl) dL_law_1067 ⟨Nat.le_of_ble_eq_true rfl, Nat.le_of_ble_eq_true rfl⟩) hP hD hS hA rfl (fun H locs hP hD hS => ?_)
  refine lv_icmp_eq (tgt := 1098) hx hb dL_law_1070 (by decide) (fun _ => ?_) (fun c => absurd rfl c)
  exact hk X M1 hRel1 H locs hP hD hS ls hl
set_option maxHeartbeats 4000000 in
set_option maxRecDepth 100000 in
theorem law_count {p : Program} {l : Launch} {e : Env} {s : State} {m : MethodId} {below : List Frame} {meth : Method} {c : Code} {D : va_G} {cyI cyZ cyT : ClassId} {adK adV qa qb : Nat → Nat} {b L : Nat} {xs : Nat → Int32} {N : Nat} {Rel : BX → Mo → Prop} (C0 : lw_At p s m meth c b L xs) (hK : jK D cyI cyZ cyT s) (hZ : jStr adK adV (fun q : Nat => s.heap.size ≤ q) s s.heap) (x3 : Int32) (hin : ∀ k : Int32, k ≤ 5 → ¬ k < 0 → vp_in (x3 + k) L) (hR : ∀ (a1 : Int32) (X : BX) (M : Mo), Rel X M → ∃ (r : Int32) (M1 : Mo), f_X7_count N a1 X = some r ∧ f_X8_count N a1 M = some (r, M1) ∧ Rel X M1) (hk : ∀ (X : BX) (M : Mo), Rel X M → ∀ (H : Heap) (locs : List Loc), va_P D vwCl (wX cyI cyZ cyT qa X ++ wM cyI cyZ qb M) H → va_D (fun q : Nat => s.heap.size ≤ q) (wX cyI cyZ cyT qa X ++ wM cyI cyZ qb M) → va_S (fun q : Nat => s.heap.size ≤ q) s.heap H locs → ∀ (ls : Array Slot), lv_has ls 4 [(0, .ref b), (1, .ref (qa 0)), (2, .ref (qb 0)), (3, .int x3)] → W p l e room_1 s m #[Value.ref b] below meth c H locs 69 819 (lw_Z below #[Value.ref b] s) (F0 m 1098 ls [])) (X : BX) (M : Mo) (hRel : Rel X M) (H : Heap) (locs : List Loc) : va_P D vwCl (wX cyI cyZ cyT qa X ++ wM cyI cyZ qb M) H → va_D (fun q : Nat => s.heap.size ≤ q) (wX cyI cyZ cyT qa X ++ wM cyI cyZ qb M) → va_S (fun q : Nat => s.heap.size ≤ q) s.heap H locs → ∀ (ls : Array Slot), lv_has ls 4 [(0, .ref b), (1, .ref (qa 0)), (2, .ref (qb 0)), (3, .int x3)] → W p l e room_1 s m #[Value.ref b] below meth c H locs 69 819 (lw_Z below #[Value.ref b] s) (F0 m 1075 ls []) := by
  obtain ⟨hx, hb, hr, hml, hown, hts, hX, hbl, hlocks, hgv⟩ := C0
  have hts := fun w h => hts w (wsL_law_in w h)
  have hA : ∀ q : Nat, s.heap.size ≤ q → (fun q : Nat => s.heap.size ≤ q) q := fun _ h => h
  have hbA : ¬ (fun q : Nat => s.heap.size ≤ q) b := Nat.not_le.mpr hbl
  intro hP hD hS ls hl
  obtain ⟨r, M1, e1, e2, hRel1⟩ := hR (xs (x3 + 1).toNatClampNeg) X M hRel
  refine lv_aload_n hx hb dL_law_1075 rfl (lv_at hl 1 rfl) ?_
  refine lv_aload_n hx hb dL_law_1076 rfl (lv_at hl 0 rfl) ?_
  refine lv_iload_n hx hb dL_law_1077 rfl (lv_at hl 3 rfl) ?_
  refine lv_iconst (v := 1) hx hb dL_law_1078 (by decide) ?_
  refine lv_iadd hx hb dL_law_1079 ?_
  refine va_sld hx hb hX hbl hbA hS (hin 1 (by decide) (by decide)) dL_law_1080 ?_
  refine jki (jrV (As := [.int (xs (x3 + 1).toNatClampNeg)]) (rest := []) ⟨hx, hb, hml, hown, hts⟩ (c_X7_count l D cyI cyZ cyT qa N (xs (x3 + 1).toNatClampNeg) X r e1) (cwV 1 hts gL_law_X7_count rfl rfl rfl (by decide +kernel) ⟨Nat.le_of_ble_eq_true rfl, Nat.le_of_ble_eq_true rfl⟩) hK (jPl hP) rfl 7 0 rfl rfl rfl hl.1 (Nat.le_of_ble_eq_true rfl) dL_law_1081 ⟨Nat.le_of_ble_eq_true rfl, Nat.le_of_ble_eq_true rfl⟩) ?_
  refine lv_aload_n hx hb dL_law_1084 rfl (lv_at hl 2 rfl) ?_
  refine lv_aload_n hx hb dL_law_1085 rfl (lv_at hl 0 rfl) ?_
  refine lv_iload_n hx hb dL_law_1086 rfl (lv_at hl 3 rfl) ?_
  refine lv_iconst (v := 1) hx hb dL_law_1087 (by decide) ?_
  refine lv_iadd hx hb dL_law_1088 ?_
  refine va_sld hx hb hX hbl hbA hS (hin 1 (by decide) (by decide)) dL_law_1089 ?_
  refine jgiR (w1 := fun u : Mo => wM cyI cyZ qb u) (wn := wM cyI cyZ qb M1) (jmV (As := [.int (xs (x3 + 1).toNatClampNeg)]) (rest := [.int r]) ⟨hx, hb, hml, hown, hts⟩ (c_X8_count l D cyI cyZ cyT qb H.size N (xs (x3 + 1).toNatClampNeg) M (r, M1) e2) (cwV 1 hts gL_law_X8_count rfl rfl rfl (by decide +kernel) ⟨Nat.le_of_ble_eq_true rfl, Nat.le_of_ble_eq_true rfl⟩) hK (jPr hP) (jDr hD) rfl 8 0 rfl rfl rfl hl.1 (Nat.le_of_ble_eq_true rfl) dL_law_1090 ⟨Nat.le_of_ble_eq_true rfl, Nat.le_of_ble_eq_true rfl⟩) hP hD hS hA rfl (fun H locs hP hD hS => ?_)
  refine lv_icmp_eq (tgt := 1098) hx hb dL_law_1093 (by decide) (fun _ => ?_) (fun c => absurd rfl c)
  exact hk X M1 hRel1 H locs hP hD hS ls hl

/-! THE START: what the tables and the Statement give; the two worlds; all calls. -/
theorem jK_ex {args : Array Value} {s : State} (hts : ∀ w ∈ lw_tbl, w.before args s = true) : ∃ (D : va_G) (cyI cyZ cyT : ClassId), jK D cyI cyZ cyT s := by
  obtain ⟨c0, i0, k0⟩ := u_known (C := RX0) (T := TX0) (N := 12) (n := 12) hts inX0 (hts (.instantiable RX0 12) (by decide +kernel))
  obtain ⟨c1, i1, k1⟩ := u_known (C := RX1) (T := TX1) (N := 5) (n := 5) hts inX1 (hts (.instantiable RX1 5) (by decide +kernel))
  obtain ⟨c2, i2, k2⟩ := u_known (C := RX2) (T := TX2) (N := 4) (n := 4) hts inX2 (hts (.instantiable RX2 4) (by decide +kernel))
  obtain ⟨c3, i3, k3⟩ := u_known (C := RX3) (T := TX3) (N := 3) (n := 3) hts inX3 (hts (.instantiable RX3 3) (by decide +kernel))
  obtain ⟨c4, i4, k4⟩ := u_known (C := RX4) (T := TX4) (N := 4) (n := 4) hts inX4 (hts (.instantiable RX4 4) (by decide +kernel))
  obtain ⟨c5, i5, k5⟩ := u_known (C := RX5) (T := TX5) (N := 6) (n := 6) hts inX5 (hts (.instantiable RX5 6) (by decide +kernel))
  obtain ⟨c6, i6, k6⟩ := u_known (C := RX6) (T := TX6) (N := 3) (n := 3) hts inX6 (hts (.instantiable RX6 3) (by decide +kernel))
  obtain ⟨c7, i7, k7⟩ := u_known (C := RX7) (T := TX7) (N := 10) (n := 10) hts inX7 (hts (.instantiable RX7 10) (by decide +kernel))
  obtain ⟨c8, i8, k8⟩ := u_known (C := RX8) (T := TX8) (N := 24) (n := 24) hts inX8 (hts (.instantiable RX8 24) (by decide +kernel))
  obtain ⟨cI, kI, pI, n1, n2, n3⟩ := Cond.arrayClass_spec (hts (.arrayClass .int) (by decide +kernel))
  obtain ⟨cZ, kZ, pZ, z1, z2, z3⟩ := Cond.arrayClass_spec (hts (.arrayClass .boolean) (by decide +kernel))
  have hAO := hts (.arrayOver (.object RX4)) (by decide +kernel)
  obtain ⟨pT, cT, kT, t1, t2, t3, t4, t5⟩ := Cond.arrayOver_spec hAO
  refine ⟨(fun k => match k with | 0 => c0 | 1 => c1 | 2 => c2 | 3 => c3 | 4 => c4 | 5 => c5 | 6 => c6 | 7 => c7 | _ => c8, fun k => match k with | 0 => i0 | 1 => i1 | 2 => i2 | 3 => i3 | 4 => i4 | 5 => i5 | 6 => i6 | 7 => i7 | _ => i8), cI, cZ, cT, ⟨fun k q hq => ?_, fun k q hq => ?_⟩, ?_⟩
  · match k, hq with
    | 0, hq => cases hq; exact k0
    | 1, hq => cases hq; exact k1
    | 2, hq => cases hq; exact k2
    | 3, hq => cases hq; exact k3
    | 4, hq => cases hq; exact k4
    | 5, hq => cases hq; exact k5
    | 6, hq => cases hq; exact k6
    | 7, hq => cases hq; exact k7
    | 8, hq => cases hq; exact k8
    | k + 9, hq => simp [vwCl] at hq
  · match k, hq with
    | 0, hq => cases hq; exact ⟨fun n z => ⟨fun k h => (by cases h), kI, n2, pI, n3⟩, n1⟩
    | 1, hq => cases hq; exact ⟨fun n z => ⟨fun k h => (by cases h), kZ, z2, pZ, z3⟩, z1⟩
    | 2, hq => cases hq; exact ⟨fun n z => ⟨fun k h => (by cases h), kT, t3, pT, t4⟩, ⟨kT, pT, t3, t4, t1, t5⟩⟩
    | k + 3, hq => simp [jTys] at hq
  · exact ⟨va_Nw.of rfl (hts _ (by decide +kernel)), va_Nw.of rfl (hts _ (by decide +kernel)), va_Nw.of rfl (hts _ (by decide +kernel)), va_Nw.of rfl (hts _ (by decide +kernel)), va_Nw.of rfl (hts _ (by decide +kernel)), va_Nw.of rfl (hts _ (by decide +kernel)), va_Nw.of rfl (hts _ (by decide +kernel)), va_Nw.of rfl (hts _ (by decide +kernel)), va_Nw.of rfl (hts _ (by decide +kernel)), va_Nw.of rfl (hts _ (by decide +kernel)), va_AO.of hAO⟩
abbrev tmJ (i : Nat) : Term := Term.string RX5 (ldcJS.getD i 0)
abbrev fltJ : List Cond := flatC (Jvm.Cond.and given_1 narrow_1)
theorem js_ex : ∀ i : Nat, i < 9 → Cond.exactly (tmJ i) "java/lang/String" ∈ fltJ := by decide +kernel
theorem js_co : ∀ i : Nat, i < 9 → Cond.eq (.field (tmJ i) "java/lang/String" "coder" "B") (.int 0) ∈ fltJ := by decide +kernel
theorem js_ar : ∀ i : Nat, i < 9 → Cond.arrayOf (.field (tmJ i) "java/lang/String" "value" "[B") .byte ∈ fltJ := by decide +kernel
theorem js_le : ∀ i : Nat, i < 9 → Cond.eq (.length (.field (tmJ i) "java/lang/String" "value" "[B")) (.int (Int32.ofNat (lenJS.getD i 0))) ∈ fltJ := by decide +kernel
theorem js_el : ∀ i : Nat, i < 9 → ∀ j : Nat, j < lenJS.getD i 0 → Cond.eq (.elem (.field (tmJ i) "java/lang/String" "value" "[B") (.int (Int32.ofNat j))) (.int ((bytJS.getD i []).getD j 0)) ∈ fltJ := by decide +kernel
theorem js_ne : ∀ i : Nat, i < 9 → ∀ j : Nat, j < 9 → i ≠ j → (Cond.not (Cond.eq (tmJ i) (tmJ j)) ∈ fltJ ∨ Cond.not (Cond.eq (tmJ j) (tmJ i)) ∈ fltJ) := by decide +kernel
theorem js_rf : ∀ i : Nat, i < 9 → Cond.stringRef RX5 (ldcJS.getD i 0) (txtJS.getD i "") ∈ lw_tbl := by decide +kernel
theorem jStr_ex {args : Array Value} {s : State} (hts : ∀ w ∈ lw_tbl, w.before args s = true) (hgv : (Jvm.Cond.and given_1 narrow_1).before args s = true) : ∃ adK adV : Nat → Nat, jStr adK adV (fun q : Nat => s.heap.size ≤ q) s s.heap := by
  have hs := flat_of_before _ hgv
  have hA : ∀ a : Nat, a < s.heap.size → ¬ (fun q : Nat => s.heap.size ≤ q) a := fun a h => Nat.not_le.mpr h
  obtain ⟨adK, adV, h1, h2⟩ := vk_Sof (args := args) (s := s) (N := 9) (tm := tmJ) (len := lenJS) (byt := bytJS) (A := fun q : Nat => s.heap.size ≤ q) (by decide) (fun i hi => hs _ (js_ex i hi)) (fun i hi => hs _ (js_co i hi)) (fun i hi => hs _ (js_ar i hi)) (fun i hi => hs _ (js_le i hi)) (fun i hi j hj => hs _ (js_el i hi j hj)) (fun i j hi hj hij => (js_ne i hi j hj hij).elim (fun h => Or.inl (hs _ h)) (fun h => Or.inr (hs _ h))) hA
  refine ⟨adK, adV, h1, fun k hk => vk_R.of (hts _ (js_rf k hk)) (h2 k hk), ?_, ?_⟩
  · exact va_Zof (hts _ (by decide +kernel)) (hts _ (by decide +kernel)) (va_eqt (hs (.eq (.static "java/lang/String" "COMPACT_STRINGS" "Z") (.int 1)) (by decide +kernel))) hA
  · exact va_Zqof (hts _ (by decide +kernel)) (hts _ (by decide +kernel)) (hs _ (by decide +kernel)) hA
theorem Rel0 {N : Nat} (hN : 8000 ≤ N) : ∃ z : Nat → Int32, f_J7_fill_53178 N (-1) 5 (fun _ => 0) = some z ∧ Rel (bx0 z) mod0 := by
  refine ⟨_, fil hN (-1) (fun _ => 0), fun a j => if a = 8 ∧ j = 3 then 20 else 0, fun _ => 0, ?_, ?_, ?_, ?_, ?_, ?_, ?_, ?_, ?_, ?_⟩
  · refine ⟨by decide, by decide, by decide, by decide, fun j => ?_⟩
    simp
  · refine ⟨fun k hk => ?_, fun j hj => absurd hj (by decide +revert), fun j hj => absurd hj (by decide +revert), fun j hj => absurd hj (by decide +revert)⟩
    rcases (show k = 0 ∨ k = 1 ∨ k = 2 ∨ k = 3 by omega) with rfl | rfl | rfl | rfl <;> rfl
  · refine ⟨fun k hk => ?_, fun j hj => absurd hj (by decide +revert), fun j hj => absurd hj (by decide +revert), fun j hj => absurd hj (by decide +revert)⟩
    rcases (show k = 0 ∨ k = 1 ∨ k = 2 ∨ k = 3 by omega) with rfl | rfl | rfl | rfl <;> rfl
  · exact ⟨by decide, by decide, by decide, fun k hk => ⟨Nat.zero_le _, fun _ => rfl, fun d (hd : 0 = d + 1) => by omega⟩⟩
  · refine ⟨rfl, rfl, rfl, fun k hk => ?_⟩
    show fillG (fun _ => 0) 0 (fun _ => (-1 : Int32)) 5 k = _
    have h := fill_in (fun _ => 0) 0 (fun _ => (-1 : Int32)) 5 k hk
    rw [Nat.zero_add] at h
    rw [h]
    rfl
  · intro j hj
    rfl
  · exact ⟨0, 0, fun _ _ => 0, by omega, by omega, rfl, rfl, rfl, fun i hi => absurd hi (by omega)⟩
  · intro i hi
    exact ⟨rfl, Or.inl rfl⟩
  · exact ⟨0, fun _ => 0, fun _ => 0, by omega, rfl, rfl, fun i hi => absurd hi (by omega)⟩
  · exact ⟨0, by omega, rfl, rfl, fun i hi => absurd hi (by omega)⟩
theorem all_calls {N : Nat} (hN : 8000 ≤ N) : jAll N Rel := ⟨p_write, p_erase, p_fault hN, p_house hN, p_mouse hN, p_step, p_rat, p_as, p_danger, p_put hN, p_clear hN, p_night hN, p_undo hN, p_keep hN, p_back hN, p_through hN, p_fails hN, p_loss hN, p_best hN, p_bestOf hN, p_drawn hN, p_alone hN, p_dread hN, p_hires hN, p_rests hN, p_fund hN, p_rats hN, p_shoe hN, p_callOff hN, p_seen, p_forget, p_teams hN, p_teamOf hN, p_count hN⟩
section JI
variable {p : Program} {l : Launch} {e : Env} {R : Room} {s : State} {m : MethodId} {args : Array Value} {below : List Frame} {meth : Method} {c : Code} {H : Heap} {locs : List Loc} {cells slots mc ms : Nat} {Q : State → Prop} {rest st0 : List Value} {pc : Nat} {ls : Array Slot} {D : va_G}
theorem jinitR {A0 : Nat → Prop} {H0 : Heap} {wa wb : va_W} {w1 : (Nat → Nat) → va_W} {q0 : Nat} {a : Array Value} (hr : va_Run p l e R s m args below meth c H locs cells slots mc ms (F0 m pc ls st0) rest (jQn D (va_A wb H.size) w1 q0 a) (va_A wb H.size)) (hP : va_P D vwCl (wa ++ wb) H) (hD : va_D A0 (wa ++ wb)) (hS : va_S A0 H0 H locs) (hA : ∀ q, H0.size ≤ q → A0 q)
    (kk : ∀ (u : Nat → Nat) (H1 : Heap) (locs1 : List Loc), u 0 = q0 → va_P D vwCl (wa ++ w1 u) H1 → va_D A0 (wa ++ w1 u) → va_S A0 H0 H1 locs1 → W p l e R s m args below meth c H1 locs1 (cells + mc) (slots + ms) Q (F0 m (pc + 3) ls rest)) : W p l e R s m args below meth c H locs cells slots Q (F0 m pc ls st0) := by
  have hR := jrangeL wa wb
  have hf := jfm hR
  refine jinit hr hP hD hS hA (List.range' wa.length wb.length) (List.range' 0 wa.length) (jrangeR wa wb) (by rw [hf]; exact hR) (jnd_range _ _) (jdisR _ _ _ (Nat.le_refl _)) (fun u H1 locs1 h1 h2 h3 h4 => ?_)
  rw [hf] at h2 h3
  exact kk u H1 locs1 h1 h2 h3 h4
end JI

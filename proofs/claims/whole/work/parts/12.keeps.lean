/-! THE CLASS, by contract: places, divisions, keeping. -/
set_option maxHeartbeats 4000000 in
set_option maxRecDepth 100000 in
theorem c_X1_needPlace (l : Launch) (i0 : Int32) (gp0 : vp_in i0 12) : Met l yX1_needPlace wsX1_needPlace ({ frames := 0, cells := 0, slots := 0, locals := 0 }) (va_Pc [.int i0] (fun _ => True)) (va_Sv (fun _ => True)) 0 0 (fun _ => False) := by
  refine Met.ofW (cc := cX1_needPlace) (maxL := 1) (ret := none) (by decide) rfl ?_
  intro p e s m args below meth c s₁ B hml hv
  obtain ⟨rfl, -⟩ := hv
  have hx := B.exec
  have hb := B.bytes
  have hr := B.returns
  have hts := atoms_spec (ws := wsX1_needPlace) B.pre
  have hown : s.vm.findClass RX1 = some m.cls := findClass_of_methodNamed B.named
  have hlocks := B.notSynchronized
  have hl := lv_entry ([.int i0]) (n := 1) (Nat.le_of_ble_eq_true rfl)
  rw [lg_entry_eq]
  generalize (lg_sl ([.int i0]) ++ List.replicate (1 - (lg_sl ([.int i0])).length) Slot.unset).toArray = ls at hl ⊢
  have hl : lv_has ls 1 [(0, .int i0)] := hl
  refine lv_iload_n hx hb dX1_needPlace_0 rfl (lv_at hl 0 rfl) ?_
  refine lv_if_lt (tgt := 10) hx hb dX1_needPlace_1 (by decide) (fun c_1 => absurd c_1 (show ¬ ((i0 : Int32) < 0) from n_p0 gp0)) (fun c_1 => ?_)
  refine lv_iload_n hx hb dX1_needPlace_4 rfl (lv_at hl 0 rfl) ?_
  refine lv_bipush (v := 12) hx hb dX1_needPlace_5 (by decide) ?_
  refine lv_icmp_lt (tgt := 20) hx hb dX1_needPlace_7 (by decide) (fun c_7 => ?_) (fun c_7 => absurd (show (i0 : Int32) < 12 from n_p3 gp0) c_7)
  exact W.vret hx hb hr (fun t ht hW => ⟨rfl, (trivial), ht⟩) (fun q hq => absurd hq List.not_mem_nil) dX1_needPlace_20
set_option maxHeartbeats 4000000 in
set_option maxRecDepth 100000 in
theorem c_X1_needPlace_no (l : Launch) (D : va_G) (sz : Nat) (i0 : Int32) (gl : l.stackTraces = false) (gp0 : ¬ vp_in i0 12) : vx_Met l yX1_needPlace wsX1_needPlace ({ frames := 6, cells := 1, slots := 6, locals := 90 }) (va_Pc [.int i0] (ny_pre D [] [] sz)) (fun _ _ _ _ => False) (vx_X (fun _ : Unit => True) (fun E' _ _ => E' = ny_IO) (fun _ => False)) 1 6 (va_A [] sz) := by
  refine vx_ofW (cc := cX1_needPlace) (maxL := 1) (ret := none) (by decide) rfl ?_
  intro p e s m args below meth c s₁ B hml ht hv
  obtain ⟨rfl, hsz, hP, hK, hD0, hE⟩ := hv
  have hx := B.exec
  have hb := B.bytes
  have hr := B.returns
  have hts := atoms_spec (ws := wsX1_needPlace) B.pre
  have hown : s.vm.findClass RX1 = some m.cls := findClass_of_methodNamed B.named
  have hlocks := B.notSynchronized
  subst hsz
  have hD := hD0.self (sz := s.heap.size)
  generalize hAe : va_A [] s.heap.size = A at hD hE ⊢
  have hA : ∀ q : Nat, s.heap.size ≤ q → A q := fun q h => by rw [← hAe]; exact Or.inr h
  have hS : va_S A s.heap s.heap [] := va_S.rf
  have hl := lv_entry ([.int i0]) (n := 1) (Nat.le_of_ble_eq_true rfl)
  rw [lg_entry_eq]
  generalize (lg_sl ([.int i0]) ++ List.replicate (1 - (lg_sl ([.int i0])).length) Slot.unset).toArray = ls at hl ⊢
  have hl : lv_has ls 1 [(0, .int i0)] := hl
  refine lv_iload_n hx hb dX1_needPlace_0 rfl (lv_at hl 0 rfl) ?_
  refine lv_if_lt (tgt := 10) hx hb dX1_needPlace_1 (by decide) (fun c_1 => ?_) (fun c_1 => ?_)
  · exact ny_throw (cls := ny_IO) hx hb gl hown (by decide) (hts (.classLink RX1 113 "java/lang/IndexOutOfBoundsException") (List.mem_of_getElem? (i := 1) rfl)) (hts (.initialized "java/lang/IndexOutOfBoundsException") (List.mem_of_getElem? (i := 2) rfl)) hE (List.mem_of_getElem? (i := 0) rfl) (List.mem_of_getElem? (i := 0) rfl) (fun w h => hts w ((fun _ h => List.mem_cons_of_mem _ (List.mem_append_right _ h)) w h)) ny_b117 ny_h117 hS (hl.1.trans hml.symm) dX1_needPlace_10 dX1_needPlace_13 dX1_needPlace_14 dX1_needPlace_16 dX1_needPlace_19 ht (Nat.le_of_ble_eq_true rfl) (Nat.le_of_ble_eq_true rfl) (Nat.le_of_ble_eq_true rfl) (Nat.le_of_ble_eq_true rfl) hlocks (Nat.le_of_ble_eq_true rfl) (Nat.le_of_ble_eq_true rfl)
  · refine lv_iload_n hx hb dX1_needPlace_4 rfl (lv_at hl 0 rfl) ?_
    refine lv_bipush (v := 12) hx hb dX1_needPlace_5 (by decide) ?_
    refine lv_icmp_lt (tgt := 20) hx hb dX1_needPlace_7 (by decide) (fun c_7 => absurd c_7 (show ¬ ((i0 : Int32) < 12) from n_p4 gp0 c_1)) (fun c_7 => ?_)
    exact ny_throw (cls := ny_IO) hx hb gl hown (by decide) (hts (.classLink RX1 113 "java/lang/IndexOutOfBoundsException") (List.mem_of_getElem? (i := 1) rfl)) (hts (.initialized "java/lang/IndexOutOfBoundsException") (List.mem_of_getElem? (i := 2) rfl)) hE (List.mem_of_getElem? (i := 0) rfl) (List.mem_of_getElem? (i := 0) rfl) (fun w h => hts w ((fun _ h => List.mem_cons_of_mem _ (List.mem_append_right _ h)) w h)) ny_b117 ny_h117 hS (hl.1.trans hml.symm) dX1_needPlace_10 dX1_needPlace_13 dX1_needPlace_14 dX1_needPlace_16 dX1_needPlace_19 ht (Nat.le_of_ble_eq_true rfl) (Nat.le_of_ble_eq_true rfl) (Nat.le_of_ble_eq_true rfl) (Nat.le_of_ble_eq_true rfl) hlocks (Nat.le_of_ble_eq_true rfl) (Nat.le_of_ble_eq_true rfl)
theorem in_X1_needDivision_X1 : ∀ w ∈ wsX10, w ∈ wsX1_needDivision := (fun _ h => List.mem_cons_of_mem _ (List.mem_append_left _ (List.mem_append_left _ (List.mem_append_left _ (List.mem_append_right _ h)))))
set_option maxHeartbeats 4000000 in
set_option maxRecDepth 100000 in
theorem c_X1_needDivision (l : Launch) (D : va_G) (cI : ClassId) (cZ : ClassId) (o : Nat) (q1 : Nat) (q2 : Nat) (q3 : Nat) (q4 : Nat) (sz : Nat) (hf : Nat → Int32) (bf : Nat → Int32) (i0 : Int32) (i1 : Int32) (gp0 : vp_in i0 12) (gp1 : vp_in i1 12) (g0 : ¬ hf i1.toNatClampNeg = 0) : Met l yX1_needDivision wsX1_needDivision ({ frames := 1, cells := 0, slots := 0, locals := 20 }) (va_Pc [.ref o, .int i0, .int i1] (ny_pre D [(cI, .int), (cZ, .boolean)] [(o, .inr (3, [.ref q1, .ref q2, .ref q3, .ref q4])), (q1, .inl (cI, 12, .inl hf)), (q2, .inl (cZ, 12, .inl bf))] sz)) (va_Sv (fun _ => True)) 0 0 (fun _ => False) := by
  refine Met.ofW (cc := cX1_needDivision) (maxL := 3) (ret := none) (by decide) rfl ?_
  intro p e s m args below meth c s₁ B hml hv
  obtain ⟨rfl, hsz, hP, hK, hD0, hE⟩ := hv
  have hx := B.exec
  have hb := B.bytes
  have hr := B.returns
  have hts := atoms_spec (ws := wsX1_needDivision) B.pre
  have hown : s.vm.findClass RX1 = some m.cls := findClass_of_methodNamed B.named
  have hlocks := B.notSynchronized
  subst hsz
  have hD := hD0.self (sz := s.heap.size)
  generalize hAe : va_A [(o, .inr (3, [.ref q1, .ref q2, .ref q3, .ref q4])), (q1, .inl (cI, 12, .inl hf)), (q2, .inl (cZ, 12, .inl bf))] s.heap.size = A at hD hE
  have hA : ∀ q : Nat, s.heap.size ≤ q → A q := fun q h => by rw [← hAe]; exact Or.inr h
  have hS : va_S A s.heap s.heap [] := va_S.rf
  have hl := lv_entry ([.ref o, .int i0, .int i1]) (n := 3) (Nat.le_of_ble_eq_true rfl)
  rw [lg_entry_eq]
  generalize (lg_sl ([.ref o, .int i0, .int i1]) ++ List.replicate (3 - (lg_sl ([.ref o, .int i0, .int i1])).length) Slot.unset).toArray = ls at hl ⊢
  have hl : lv_has ls 3 [(0, .ref o), (1, .int i0), (2, .int i1)] := hl
  refine lv_iload_n hx hb dX1_needDivision_0 rfl (lv_at hl 1 rfl) ?_
  refine va_csv (va_Run.run (va_runS (As := [.int i0]) (rest := []) ⟨hx, hb, hml, hown, hts⟩ (c_X1_needPlace l i0 (by assumption)) (va_cwS 1 hts gX1_needDivision_X1_needPlace rfl rfl rfl (by decide +kernel) ⟨Nat.le_of_ble_eq_true rfl, Nat.le_of_ble_eq_true rfl⟩) ⟨ny_blindT, fun U hU hW => ⟨rfl, trivial⟩⟩ rfl rfl hl.1 rfl (lv_room (Nat.le_of_ble_eq_true rfl)) dX1_needDivision_1 ⟨Nat.le_of_ble_eq_true rfl, Nat.le_of_ble_eq_true rfl⟩)) (fun hw => ?_)
  refine lv_iload_n hx hb dX1_needDivision_4 rfl (lv_at hl 2 rfl) ?_
  refine va_csv (va_Run.run (va_runS (As := [.int i1]) (rest := []) ⟨hx, hb, hml, hown, hts⟩ (c_X1_needPlace l i1 (by assumption)) (va_cwS 1 hts gX1_needDivision_X1_needPlace rfl rfl rfl (by decide +kernel) ⟨Nat.le_of_ble_eq_true rfl, Nat.le_of_ble_eq_true rfl⟩) ⟨ny_blindT, fun U hU hW => ⟨rfl, trivial⟩⟩ rfl rfl hl.1 rfl (lv_room (Nat.le_of_ble_eq_true rfl)) dX1_needDivision_5 ⟨Nat.le_of_ble_eq_true rfl, Nat.le_of_ble_eq_true rfl⟩)) (fun hw => ?_)
  refine lv_aload_n hx hb dX1_needDivision_8 rfl (lv_at hl 0 rfl) ?_
  refine va_get (D := D) (ci := 3) (v := .ref q1) (C := RX1) (T := TX1) (N := 4) hx hb hts in_X1_needDivision_X1 hown hK hP 0 rfl rfl 0 (by decide) (hts (.fieldLink RX1 9 "Nearestclock" "held" "[I") (List.mem_of_getElem? (i := 3) rfl)) (fun _ h9 => h9) rfl dX1_needDivision_9 ?_
  refine lv_iload_n hx hb dX1_needDivision_12 rfl (lv_at hl 2 rfl) ?_
  refine va_iald hx hb hK hP 1 0 rfl rfl (by assumption) dX1_needDivision_13 ?_
  refine lv_if_ne (tgt := 27) hx hb dX1_needDivision_14 (by decide) (fun c_14 => ?_) (fun c_14 => absurd c_14 (show ¬ (((hf i1.toNatClampNeg) : Int32) = 0) from g0))
  exact W.vret hx hb hr (fun t ht hW => ⟨rfl, (trivial), ht⟩) (fun q hq => absurd hq List.not_mem_nil) dX1_needDivision_27
set_option maxHeartbeats 4000000 in
set_option maxRecDepth 100000 in
theorem c_X1_needDivision_noP (l : Launch) (D : va_G) (cI : ClassId) (cZ : ClassId) (o : Nat) (q1 : Nat) (q2 : Nat) (q3 : Nat) (q4 : Nat) (sz : Nat) (hf : Nat → Int32) (bf : Nat → Int32) (i0 : Int32) (i1 : Int32) (gl : l.stackTraces = false) (gb : ¬ vp_in i0 12 ∨ ¬ vp_in i1 12) : vx_Met l yX1_needDivision wsX1_needDivision ({ frames := 7, cells := 1, slots := 6, locals := 110 }) (va_Pc [.ref o, .int i0, .int i1] (ny_pre D [(cI, .int), (cZ, .boolean)] [(o, .inr (3, [.ref q1, .ref q2, .ref q3, .ref q4])), (q1, .inl (cI, 12, .inl hf)), (q2, .inl (cZ, 12, .inl bf))] sz)) (fun _ _ _ _ => False) (vx_X (fun _ : Unit => True) (fun E' _ _ => E' = ny_IO) (fun _ => False)) 1 6 (va_A [(o, .inr (3, [.ref q1, .ref q2, .ref q3, .ref q4])), (q1, .inl (cI, 12, .inl hf)), (q2, .inl (cZ, 12, .inl bf))] sz) := by
  refine vx_ofW (cc := cX1_needDivision) (maxL := 3) (ret := none) (by decide) rfl ?_
  intro p e s m args below meth c s₁ B hml ht hv
  obtain ⟨rfl, hsz, hP, hK, hD0, hE⟩ := hv
  have hx := B.exec
  have hb := B.bytes
  have hr := B.returns
  have hts := atoms_spec (ws := wsX1_needDivision) B.pre
  have hown : s.vm.findClass RX1 = some m.cls := findClass_of_methodNamed B.named
  have hlocks := B.notSynchronized
  subst hsz
  have hD := hD0.self (sz := s.heap.size)
  generalize hAe : va_A [(o, .inr (3, [.ref q1, .ref q2, .ref q3, .ref q4])), (q1, .inl (cI, 12, .inl hf)), (q2, .inl (cZ, 12, .inl bf))] s.heap.size = A at hD hE ⊢
  have hA : ∀ q : Nat, s.heap.size ≤ q → A q := fun q h => by rw [← hAe]; exact Or.inr h
  have hS : va_S A s.heap s.heap [] := va_S.rf
  have hl := lv_entry ([.ref o, .int i0, .int i1]) (n := 3) (Nat.le_of_ble_eq_true rfl)
  rw [lg_entry_eq]
  generalize (lg_sl ([.ref o, .int i0, .int i1]) ++ List.replicate (3 - (lg_sl ([.ref o, .int i0, .int i1])).length) Slot.unset).toArray = ls at hl ⊢
  have hl : lv_has ls 3 [(0, .ref o), (1, .int i0), (2, .int i1)] := hl
  refine lv_iload_n hx hb dX1_needDivision_0 rfl (lv_at hl 1 rfl) ?_
  by_cases q_1 : vp_in i0 12
  · have gb := gb.resolve_left (fun h => h q_1)
    refine va_csv (va_Run.run (va_runS (As := [.int i0]) (rest := []) ⟨hx, hb, hml, hown, hts⟩ (c_X1_needPlace l i0 (by assumption)) (va_cwS 1 hts gX1_needDivision_X1_needPlace rfl rfl rfl (by decide +kernel) ⟨Nat.le_of_ble_eq_true rfl, Nat.le_of_ble_eq_true rfl⟩) ⟨ny_blindT, fun U hU hW => ⟨rfl, trivial⟩⟩ rfl rfl hl.1 rfl (lv_room (Nat.le_of_ble_eq_true rfl)) dX1_needDivision_1 ⟨Nat.le_of_ble_eq_true rfl, Nat.le_of_ble_eq_true rfl⟩)) (fun hw => ?_)
    refine lv_iload_n hx hb dX1_needDivision_4 rfl (lv_at hl 2 rfl) ?_
    exact ny_th hS (va_free (wc := []) hD hS hA [] rfl) ht hlocks (Nat.le_of_ble_eq_true rfl) (Nat.le_of_ble_eq_true rfl) (vx_runS (As := [.int i1]) (rest := []) ⟨hx, hb, hml, hown, hts⟩ (c_X1_needPlace_no l D s.heap.size i1 (by assumption) (by assumption)) (va_cwS 1 hts gX1_needDivision_X1_needPlace rfl rfl rfl (by decide +kernel) ⟨Nat.le_of_ble_eq_true rfl, Nat.le_of_ble_eq_true rfl⟩) ⟨ny_blind, fun U hU hW => ⟨rfl, ny_preU hE hP hK hD hS hA [] rfl (by decide) rfl [] rfl U hU hW⟩⟩ rfl rfl hl.1 rfl (lv_room (Nat.le_of_ble_eq_true rfl)) dX1_needDivision_5 ⟨Nat.le_of_ble_eq_true rfl, Nat.le_of_ble_eq_true rfl⟩)
  · exact ny_th hS (va_free (wc := []) hD hS hA [] rfl) ht hlocks (Nat.le_of_ble_eq_true rfl) (Nat.le_of_ble_eq_true rfl) (vx_runS (As := [.int i0]) (rest := []) ⟨hx, hb, hml, hown, hts⟩ (c_X1_needPlace_no l D s.heap.size i0 (by assumption) (by assumption)) (va_cwS 1 hts gX1_needDivision_X1_needPlace rfl rfl rfl (by decide +kernel) ⟨Nat.le_of_ble_eq_true rfl, Nat.le_of_ble_eq_true rfl⟩) ⟨ny_blind, fun U hU hW => ⟨rfl, ny_preU hE hP hK hD hS hA [] rfl (by decide) rfl [] rfl U hU hW⟩⟩ rfl rfl hl.1 rfl (lv_room (Nat.le_of_ble_eq_true rfl)) dX1_needDivision_1 ⟨Nat.le_of_ble_eq_true rfl, Nat.le_of_ble_eq_true rfl⟩)
set_option maxHeartbeats 4000000 in
set_option maxRecDepth 100000 in
theorem c_X1_needDivision_no0 (l : Launch) (D : va_G) (cI : ClassId) (cZ : ClassId) (o : Nat) (q1 : Nat) (q2 : Nat) (q3 : Nat) (q4 : Nat) (sz : Nat) (hf : Nat → Int32) (bf : Nat → Int32) (i0 : Int32) (i1 : Int32) (gl : l.stackTraces = false) (gp0 : vp_in i0 12) (gp1 : vp_in i1 12) (g0 : hf i1.toNatClampNeg = 0) : vx_Met l yX1_needDivision wsX1_needDivision ({ frames := 6, cells := 1, slots := 6, locals := 90 }) (va_Pc [.ref o, .int i0, .int i1] (ny_pre D [(cI, .int), (cZ, .boolean)] [(o, .inr (3, [.ref q1, .ref q2, .ref q3, .ref q4])), (q1, .inl (cI, 12, .inl hf)), (q2, .inl (cZ, 12, .inl bf))] sz)) (fun _ _ _ _ => False) (vx_X (fun _ : Unit => True) (fun E' _ _ => E' = ny_AE) (fun _ => False)) 1 6 (va_A [(o, .inr (3, [.ref q1, .ref q2, .ref q3, .ref q4])), (q1, .inl (cI, 12, .inl hf)), (q2, .inl (cZ, 12, .inl bf))] sz) := by
  refine vx_ofW (cc := cX1_needDivision) (maxL := 3) (ret := none) (by decide) rfl ?_
  intro p e s m args below meth c s₁ B hml ht hv
  obtain ⟨rfl, hsz, hP, hK, hD0, hE⟩ := hv
  have hx := B.exec
  have hb := B.bytes
  have hr := B.returns
  have hts := atoms_spec (ws := wsX1_needDivision) B.pre
  have hown : s.vm.findClass RX1 = some m.cls := findClass_of_methodNamed B.named
  have hlocks := B.notSynchronized
  subst hsz
  have hD := hD0.self (sz := s.heap.size)
  generalize hAe : va_A [(o, .inr (3, [.ref q1, .ref q2, .ref q3, .ref q4])), (q1, .inl (cI, 12, .inl hf)), (q2, .inl (cZ, 12, .inl bf))] s.heap.size = A at hD hE ⊢
  have hA : ∀ q : Nat, s.heap.size ≤ q → A q := fun q h => by rw [← hAe]; exact Or.inr h
  have hS : va_S A s.heap s.heap [] := va_S.rf
  have hl := lv_entry ([.ref o, .int i0, .int i1]) (n := 3) (Nat.le_of_ble_eq_true rfl)
  rw [lg_entry_eq]
  generalize (lg_sl ([.ref o, .int i0, .int i1]) ++ List.replicate (3 - (lg_sl ([.ref o, .int i0, .int i1])).length) Slot.unset).toArray = ls at hl ⊢
  have hl : lv_has ls 3 [(0, .ref o), (1, .int i0), (2, .int i1)] := hl
  refine lv_iload_n hx hb dX1_needDivision_0 rfl (lv_at hl 1 rfl) ?_
  refine va_csv (va_Run.run (va_runS (As := [.int i0]) (rest := []) ⟨hx, hb, hml, hown, hts⟩ (c_X1_needPlace l i0 (by assumption)) (va_cwS 1 hts gX1_needDivision_X1_needPlace rfl rfl rfl (by decide +kernel) ⟨Nat.le_of_ble_eq_true rfl, Nat.le_of_ble_eq_true rfl⟩) ⟨ny_blindT, fun U hU hW => ⟨rfl, trivial⟩⟩ rfl rfl hl.1 rfl (lv_room (Nat.le_of_ble_eq_true rfl)) dX1_needDivision_1 ⟨Nat.le_of_ble_eq_true rfl, Nat.le_of_ble_eq_true rfl⟩)) (fun hw => ?_)
  refine lv_iload_n hx hb dX1_needDivision_4 rfl (lv_at hl 2 rfl) ?_
  refine va_csv (va_Run.run (va_runS (As := [.int i1]) (rest := []) ⟨hx, hb, hml, hown, hts⟩ (c_X1_needPlace l i1 (by assumption)) (va_cwS 1 hts gX1_needDivision_X1_needPlace rfl rfl rfl (by decide +kernel) ⟨Nat.le_of_ble_eq_true rfl, Nat.le_of_ble_eq_true rfl⟩) ⟨ny_blindT, fun U hU hW => ⟨rfl, trivial⟩⟩ rfl rfl hl.1 rfl (lv_room (Nat.le_of_ble_eq_true rfl)) dX1_needDivision_5 ⟨Nat.le_of_ble_eq_true rfl, Nat.le_of_ble_eq_true rfl⟩)) (fun hw => ?_)
  refine lv_aload_n hx hb dX1_needDivision_8 rfl (lv_at hl 0 rfl) ?_
  refine va_get (D := D) (ci := 3) (v := .ref q1) (C := RX1) (T := TX1) (N := 4) hx hb hts in_X1_needDivision_X1 hown hK hP 0 rfl rfl 0 (by decide) (hts (.fieldLink RX1 9 "Nearestclock" "held" "[I") (List.mem_of_getElem? (i := 3) rfl)) (fun _ h9 => h9) rfl dX1_needDivision_9 ?_
  refine lv_iload_n hx hb dX1_needDivision_12 rfl (lv_at hl 2 rfl) ?_
  refine va_iald hx hb hK hP 1 0 rfl rfl (by assumption) dX1_needDivision_13 ?_
  refine lv_if_ne (tgt := 27) hx hb dX1_needDivision_14 (by decide) (fun c_14 => absurd (show ((hf i1.toNatClampNeg) : Int32) = 0 from g0) c_14) (fun c_14 => ?_)
  exact ny_throw (cls := ny_AE) hx hb gl hown (by decide) (hts (.classLink RX1 95 "java/lang/ArithmeticException") (List.mem_of_getElem? (i := 1) rfl)) (hts (.initialized "java/lang/ArithmeticException") (List.mem_of_getElem? (i := 2) rfl)) hE (List.mem_of_getElem? (i := 2) rfl) (List.mem_of_getElem? (i := 2) rfl) (fun w h => hts w ((fun _ h => List.mem_cons_of_mem _ (List.mem_append_left _ (List.mem_append_right _ h))) w h)) ny_b99 ny_h99 hS (hl.1.trans hml.symm) dX1_needDivision_17 dX1_needDivision_20 dX1_needDivision_21 dX1_needDivision_23 dX1_needDivision_26 ht (Nat.le_of_ble_eq_true rfl) (Nat.le_of_ble_eq_true rfl) (Nat.le_of_ble_eq_true rfl) (Nat.le_of_ble_eq_true rfl) hlocks (Nat.le_of_ble_eq_true rfl) (Nat.le_of_ble_eq_true rfl)
set_option maxHeartbeats 4000000 in
set_option maxRecDepth 100000 in
theorem c_X1_bitsOf (l : Launch) (h : Int32) (b : Int32) (gh : ny_R h) : Met l yX1_bitsOf wsX1_bitsOf ({ frames := 1, cells := 0, slots := 0, locals := 24 }) (va_Pc [.int h, .int b] (fun _ => True)) (vp_Sl (fun r => r = f_bt h b)) 0 0 (fun _ => False) := by
  refine Met.ofW (cc := cX1_bitsOf) (maxL := 8) (ret := (some .long)) (by decide) rfl ?_
  intro p e s m args below meth c s₁ B hml hv
  obtain ⟨rfl, -⟩ := hv
  have hx := B.exec
  have hb := B.bytes
  have hr := B.returns
  have hts := atoms_spec (ws := wsX1_bitsOf) B.pre
  have hown : s.vm.findClass RX1 = some m.cls := findClass_of_methodNamed B.named
  have hlocks := B.notSynchronized
  have hl := lv_entry ([.int h, .int b]) (n := 8) (Nat.le_of_ble_eq_true rfl)
  rw [lg_entry_eq]
  generalize (lg_sl ([.int h, .int b]) ++ List.replicate (8 - (lg_sl ([.int h, .int b])).length) Slot.unset).toArray = ls at hl ⊢
  have hl : lv_has ls 8 [(0, .int h), (1, .int b)] := hl
  refine lv_iload_n hx hb dX1_bitsOf_0 rfl (lv_at hl 0 rfl) ?_
  refine lv_if_ne (tgt := 16) hx hb dX1_bitsOf_1 (by decide) (fun c_1 => ?_) (fun c_1 => ?_)
  · refine lv_iload_n hx hb dX1_bitsOf_16 rfl (lv_at hl 0 rfl) ?_
    refine va_mabs hx hb (hml.trans hl.1.symm) hown (hts (.methodLink RX1 65 Lib.Math.abs.name) (List.mem_of_getElem? (i := 2) rfl)) (hts (.static Lib.Math.abs.name) (List.mem_of_getElem? (i := 3) rfl)) (hts (.initialized "java/lang/Math") (List.mem_of_getElem? (i := 4) rfl)) (hts (.code Lib.Math.abs.name Lib.Math.abs.code 1 (some .int)) (List.mem_of_getElem? (i := 5) rfl)) (Nat.le_of_ble_eq_true rfl) (Nat.le_of_ble_eq_true rfl) (Nat.le_of_ble_eq_true rfl) (Nat.le_of_ble_eq_true rfl) dX1_bitsOf_17 ?_
    refine W.eq (g2 := F0 m 20 ls [.int (ny_ab h)]) rfl ?_
    refine lv_topi (fun x3 e_x3 => ?_)
    have h3 : 0 < x3.toInt ∧ x3.toInt ≤ 127 := by rw [e_x3, ny_ab_i (ny_R_lo gh)]; have := n_Np gh c_1; omega
    refine lv_istore_n (lv' := [(2, .int x3), (0, .int h), (1, .int b)]) hx hb dX1_bitsOf_20 rfl hl (by decide) rfl (fun ls hl => ?_)
    refine lv_bipush (v := 31) hx hb dX1_bitsOf_21 (by decide) ?_
    refine lv_iload_n hx hb dX1_bitsOf_23 rfl (lv_at hl 0 rfl) ?_
    refine vp_callSi (va_Run.run (va_runS (As := [.int x3]) (rest := [.int 31]) ⟨hx, hb, hml, hown, hts⟩ (c_J6_numberOfLeadingZeros_0f7a4 l x3 (by assumption)) (va_cwS 1 hts gX1_bitsOf_J6_numberOfLeadingZeros_0f7a4 rfl rfl rfl (by decide +kernel) ⟨Nat.le_of_ble_eq_true rfl, Nat.le_of_ble_eq_true rfl⟩) ⟨ny_blindT, fun U hU hW => ⟨rfl, trivial⟩⟩ rfl rfl hl.1 rfl (lv_room (Nat.le_of_ble_eq_true rfl)) dX1_bitsOf_24 ⟨Nat.le_of_ble_eq_true rfl, Nat.le_of_ble_eq_true rfl⟩)) (fun r_24 hw_24 => ?_)
    have hw_24 : r_24 = nI (31 - x3.toInt.toNat.log2) := hw_24
    subst hw_24
    refine lv_isub hx hb dX1_bitsOf_27 ?_
    refine lv_istore_n (lv' := [(3, .int (31 - (nI (31 - x3.toInt.toNat.log2)))), (2, .int x3), (0, .int h), (1, .int b)]) hx hb dX1_bitsOf_28 rfl hl (by decide) rfl (fun ls hl => ?_)
    refine lv_sipush (v := 1020) hx hb dX1_bitsOf_29 (by decide) ?_
    refine lv_iload_n hx hb dX1_bitsOf_32 rfl (lv_at hl 0 rfl) ?_
    refine lv_iadd hx hb dX1_bitsOf_33 ?_
    refine lv_i2l hx hb dX1_bitsOf_34 rfl ?_
    refine lv_bipush (v := 52) hx hb dX1_bitsOf_35 (by decide) ?_
    refine lv_lshl hx hb dX1_bitsOf_37 rfl ?_
    refine lv_lstore (lv' := [(4, .long (((1020 + (31 - (nI (31 - x3.toInt.toNat.log2)))).toInt64) <<< ((52 : Int32).toInt64 &&& 63))), (3, .int (31 - (nI (31 - x3.toInt.toNat.log2)))), (2, .int x3), (0, .int h), (1, .int b)]) hx hb dX1_bitsOf_38 hl (by decide) rfl (fun ls hl => ?_)
    refine lv_iload_n hx hb dX1_bitsOf_40 rfl (lv_at hl 2 rfl) ?_
    refine lv_i2l hx hb dX1_bitsOf_41 rfl ?_
    refine lv_bipush (v := 52) hx hb dX1_bitsOf_42 (by decide) ?_
    refine lv_iload_n hx hb dX1_bitsOf_44 rfl (lv_at hl 1 rfl) ?_
    refine lv_isub hx hb dX1_bitsOf_45 ?_
    refine lv_lshl hx hb dX1_bitsOf_46 rfl ?_
    refine lv_ldc2 (own := RX1) (v := 4503599627370495) hx hb hown (hts (.constantLong RX1 160 (4503599627370495)) (List.mem_of_getElem? (i := 6) rfl)) dX1_bitsOf_47 ?_
    refine lv_land hx hb dX1_bitsOf_50 ?_
    refine lv_lstore (lv' := [(6, .long ((x3.toInt64 <<< ((52 - (31 - (nI (31 - x3.toInt.toNat.log2)))).toInt64 &&& 63)) &&& 4503599627370495)), (4, .long (((1020 + (31 - (nI (31 - x3.toInt.toNat.log2)))).toInt64) <<< ((52 : Int32).toInt64 &&& 63))), (3, .int (31 - (nI (31 - x3.toInt.toNat.log2)))), (2, .int x3), (0, .int h), (1, .int b)]) hx hb dX1_bitsOf_51 hl (by decide) rfl (fun ls hl => ?_)
    refine lv_iload_n hx hb dX1_bitsOf_53 rfl (lv_at hl 4 rfl) ?_
    refine lv_if_ge (tgt := 63) hx hb dX1_bitsOf_54 (by decide) (fun c_54 => ?_) (fun c_54 => ?_)
    · refine lv_lconst (v := 0) hx hb dX1_bitsOf_63 (by decide) ?_
      refine lv_lload hx hb dX1_bitsOf_64 (lv_at hl 1 rfl) ?_
      refine lv_lor hx hb dX1_bitsOf_66 ?_
      refine lv_lload hx hb dX1_bitsOf_67 (lv_at hl 0 rfl) ?_
      refine lv_lor hx hb dX1_bitsOf_69 ?_
      exact W.lret (v := (0 ||| (((1020 + (31 - (nI (31 - x3.toInt.toNat.log2)))).toInt64) <<< ((52 : Int32).toInt64 &&& 63))) ||| ((x3.toInt64 <<< ((52 - (31 - (nI (31 - x3.toInt.toNat.log2)))).toInt64 &&& 63)) &&& 4503599627370495)) hx hb hr (fun t ht hW => ⟨(0 ||| (((1020 + (31 - (nI (31 - x3.toInt.toNat.log2)))).toInt64) <<< ((52 : Int32).toInt64 &&& 63))) ||| ((x3.toInt64 <<< ((52 - (31 - (nI (31 - x3.toInt.toNat.log2)))).toInt64 &&& 63)) &&& 4503599627370495), rfl, (n_bat1 gh c_1 e_x3 c_54), ht⟩) (fun q hq => absurd hq List.not_mem_nil) dX1_bitsOf_70
    · refine lv_ldc2 (own := RX1) (v := -9223372036854775808) hx hb hown (hts (.constantLong RX1 155 (-9223372036854775808)) (List.mem_of_getElem? (i := 1) rfl)) dX1_bitsOf_57 ?_
      refine lv_goto (tgt := 64) hx hb dX1_bitsOf_60 (by decide) ?_
      refine lv_lload hx hb dX1_bitsOf_64 (lv_at hl 1 rfl) ?_
      refine lv_lor hx hb dX1_bitsOf_66 ?_
      refine lv_lload hx hb dX1_bitsOf_67 (lv_at hl 0 rfl) ?_
      refine lv_lor hx hb dX1_bitsOf_69 ?_
      exact W.lret (v := ((-9223372036854775808) ||| (((1020 + (31 - (nI (31 - x3.toInt.toNat.log2)))).toInt64) <<< ((52 : Int32).toInt64 &&& 63))) ||| ((x3.toInt64 <<< ((52 - (31 - (nI (31 - x3.toInt.toNat.log2)))).toInt64 &&& 63)) &&& 4503599627370495)) hx hb hr (fun t ht hW => ⟨((-9223372036854775808) ||| (((1020 + (31 - (nI (31 - x3.toInt.toNat.log2)))).toInt64) <<< ((52 : Int32).toInt64 &&& 63))) ||| ((x3.toInt64 <<< ((52 - (31 - (nI (31 - x3.toInt.toNat.log2)))).toInt64 &&& 63)) &&& 4503599627370495), rfl, (n_bat2 gh c_1 e_x3 c_54), ht⟩) (fun q hq => absurd hq List.not_mem_nil) dX1_bitsOf_70
  · refine lv_iload_n hx hb dX1_bitsOf_4 rfl (lv_at hl 1 rfl) ?_
    refine lv_if_eq (tgt := 14) hx hb dX1_bitsOf_5 (by decide) (fun c_5 => ?_) (fun c_5 => ?_)
    · refine lv_lconst (v := 0) hx hb dX1_bitsOf_14 (by decide) ?_
      exact W.lret (v := 0) hx hb hr (fun t ht hW => ⟨0, rfl, (n_bt0 c_1 c_5), ht⟩) (fun q hq => absurd hq List.not_mem_nil) dX1_bitsOf_15
    · refine lv_ldc2 (own := RX1) (v := -9223372036854775808) hx hb hown (hts (.constantLong RX1 155 (-9223372036854775808)) (List.mem_of_getElem? (i := 1) rfl)) dX1_bitsOf_8 ?_
      refine lv_goto (tgt := 15) hx hb dX1_bitsOf_11 (by decide) ?_
      exact W.lret (v := -9223372036854775808) hx hb hr (fun t ht hW => ⟨-9223372036854775808, rfl, (n_bt1 c_1 c_5), ht⟩) (fun q hq => absurd hq List.not_mem_nil) dX1_bitsOf_15
theorem in_X1_bitsAt_X1 : ∀ w ∈ wsX10, w ∈ wsX1_bitsAt := (fun _ h => List.mem_cons_of_mem _ (List.mem_append_left _ (List.mem_append_right _ h)))
set_option maxHeartbeats 4000000 in
set_option maxRecDepth 100000 in
theorem c_X1_bitsAt (l : Launch) (D : va_G) (cI : ClassId) (cZ : ClassId) (o : Nat) (q1 : Nat) (q2 : Nat) (q3 : Nat) (q4 : Nat) (sz : Nat) (hf : Nat → Int32) (bf : Nat → Int32) (i0 : Int32) (gp0 : vp_in i0 12) (gh : ny_R (hf i0.toNatClampNeg)) : Met l yX1_bitsAt wsX1_bitsAt ({ frames := 2, cells := 0, slots := 0, locals := 51 }) (va_Pc [.ref o, .int i0] (ny_pre D [(cI, .int), (cZ, .boolean)] [(o, .inr (3, [.ref q1, .ref q2, .ref q3, .ref q4])), (q1, .inl (cI, 12, .inl hf)), (q2, .inl (cZ, 12, .inl bf))] sz)) (vp_Sl (fun r => r = f_bt (hf i0.toNatClampNeg) (bf i0.toNatClampNeg))) 0 0 (fun _ => False) := by
  refine Met.ofW (cc := cX1_bitsAt) (maxL := 2) (ret := (some .long)) (by decide) rfl ?_
  intro p e s m args below meth c s₁ B hml hv
  obtain ⟨rfl, hsz, hP, hK, hD0, hE⟩ := hv
  have hx := B.exec
  have hb := B.bytes
  have hr := B.returns
  have hts := atoms_spec (ws := wsX1_bitsAt) B.pre
  have hown : s.vm.findClass RX1 = some m.cls := findClass_of_methodNamed B.named
  have hlocks := B.notSynchronized
  subst hsz
  have hD := hD0.self (sz := s.heap.size)
  generalize hAe : va_A [(o, .inr (3, [.ref q1, .ref q2, .ref q3, .ref q4])), (q1, .inl (cI, 12, .inl hf)), (q2, .inl (cZ, 12, .inl bf))] s.heap.size = A at hD hE
  have hA : ∀ q : Nat, s.heap.size ≤ q → A q := fun q h => by rw [← hAe]; exact Or.inr h
  have hS : va_S A s.heap s.heap [] := va_S.rf
  have hl := lv_entry ([.ref o, .int i0]) (n := 2) (Nat.le_of_ble_eq_true rfl)
  rw [lg_entry_eq]
  generalize (lg_sl ([.ref o, .int i0]) ++ List.replicate (2 - (lg_sl ([.ref o, .int i0])).length) Slot.unset).toArray = ls at hl ⊢
  have hl : lv_has ls 2 [(0, .ref o), (1, .int i0)] := hl
  refine lv_aload_n hx hb dX1_bitsAt_0 rfl (lv_at hl 0 rfl) ?_
  refine va_get (D := D) (ci := 3) (v := .ref q1) (C := RX1) (T := TX1) (N := 4) hx hb hts in_X1_bitsAt_X1 hown hK hP 0 rfl rfl 0 (by decide) (hts (.fieldLink RX1 9 "Nearestclock" "held" "[I") (List.mem_of_getElem? (i := 1) rfl)) (fun _ h9 => h9) rfl dX1_bitsAt_1 ?_
  refine lv_iload_n hx hb dX1_bitsAt_4 rfl (lv_at hl 1 rfl) ?_
  refine va_iald hx hb hK hP 1 0 rfl rfl (by assumption) dX1_bitsAt_5 ?_
  refine lv_aload_n hx hb dX1_bitsAt_6 rfl (lv_at hl 0 rfl) ?_
  refine va_get (D := D) (ci := 3) (v := .ref q2) (C := RX1) (T := TX1) (N := 4) hx hb hts in_X1_bitsAt_X1 hown hK hP 0 rfl rfl 1 (by decide) (hts (.fieldLink RX1 13 "Nearestclock" "isBelow" "[Z") (List.mem_of_getElem? (i := 2) rfl)) (fun _ h9 => h9) rfl dX1_bitsAt_7 ?_
  refine lv_iload_n hx hb dX1_bitsAt_10 rfl (lv_at hl 1 rfl) ?_
  refine va_zald hx hb hK hP 2 1 rfl rfl (by assumption) dX1_bitsAt_11 ?_
  refine vp_callSl (va_Run.run (va_runS (As := [.int (hf i0.toNatClampNeg), .int (bf i0.toNatClampNeg)]) (rest := []) ⟨hx, hb, hml, hown, hts⟩ (c_X1_bitsOf l (hf i0.toNatClampNeg) (bf i0.toNatClampNeg) (by assumption)) (va_cwS 2 hts gX1_bitsAt_X1_bitsOf rfl rfl rfl (by decide +kernel) ⟨Nat.le_of_ble_eq_true rfl, Nat.le_of_ble_eq_true rfl⟩) ⟨ny_blindT, fun U hU hW => ⟨rfl, trivial⟩⟩ rfl rfl hl.1 rfl (lv_room (Nat.le_of_ble_eq_true rfl)) dX1_bitsAt_12 ⟨Nat.le_of_ble_eq_true rfl, Nat.le_of_ble_eq_true rfl⟩)) (fun r_12 hw_12 => ?_)
  have hw_12 : r_12 = f_bt (hf i0.toNatClampNeg) (bf i0.toNatClampNeg) := hw_12
  subst hw_12
  exact W.lret (v := f_bt (hf i0.toNatClampNeg) (bf i0.toNatClampNeg)) hx hb hr (fun t ht hW => ⟨f_bt (hf i0.toNatClampNeg) (bf i0.toNatClampNeg), rfl, (rfl), ht⟩) (fun q hq => absurd hq List.not_mem_nil) dX1_bitsAt_15
theorem in_X1_isUnder_X1 : ∀ w ∈ wsX10, w ∈ wsX1_isUnder := (fun _ h => List.mem_cons_of_mem _ (List.mem_append_left _ (List.mem_append_right _ h)))
set_option maxHeartbeats 4000000 in
set_option maxRecDepth 100000 in
theorem c_X1_isUnder (l : Launch) (D : va_G) (cI : ClassId) (cZ : ClassId) (o : Nat) (q1 : Nat) (q2 : Nat) (q3 : Nat) (q4 : Nat) (sz : Nat) (hf : Nat → Int32) (bf : Nat → Int32) (i0 : Int32) (gp0 : vp_in i0 12) (gb : ny_B (bf i0.toNatClampNeg)) : Met l yX1_isUnder wsX1_isUnder ({ frames := 0, cells := 0, slots := 0, locals := 0 }) (va_Pc [.ref o, .int i0] (ny_pre D [(cI, .int), (cZ, .boolean)] [(o, .inr (3, [.ref q1, .ref q2, .ref q3, .ref q4])), (q1, .inl (cI, 12, .inl hf)), (q2, .inl (cZ, 12, .inl bf))] sz)) (vp_Si (fun r => r = f_un (hf i0.toNatClampNeg) (bf i0.toNatClampNeg))) 0 0 (fun _ => False) := by
  refine Met.ofW (cc := cX1_isUnder) (maxL := 2) (ret := (some .boolean)) (by decide) rfl ?_
  intro p e s m args below meth c s₁ B hml hv
  obtain ⟨rfl, hsz, hP, hK, hD0, hE⟩ := hv
  have hx := B.exec
  have hb := B.bytes
  have hr := B.returns
  have hts := atoms_spec (ws := wsX1_isUnder) B.pre
  have hown : s.vm.findClass RX1 = some m.cls := findClass_of_methodNamed B.named
  have hlocks := B.notSynchronized
  subst hsz
  have hD := hD0.self (sz := s.heap.size)
  generalize hAe : va_A [(o, .inr (3, [.ref q1, .ref q2, .ref q3, .ref q4])), (q1, .inl (cI, 12, .inl hf)), (q2, .inl (cZ, 12, .inl bf))] s.heap.size = A at hD hE
  have hA : ∀ q : Nat, s.heap.size ≤ q → A q := fun q h => by rw [← hAe]; exact Or.inr h
  have hS : va_S A s.heap s.heap [] := va_S.rf
  have hl := lv_entry ([.ref o, .int i0]) (n := 2) (Nat.le_of_ble_eq_true rfl)
  rw [lg_entry_eq]
  generalize (lg_sl ([.ref o, .int i0]) ++ List.replicate (2 - (lg_sl ([.ref o, .int i0])).length) Slot.unset).toArray = ls at hl ⊢
  have hl : lv_has ls 2 [(0, .ref o), (1, .int i0)] := hl
  refine lv_aload_n hx hb dX1_isUnder_0 rfl (lv_at hl 0 rfl) ?_
  refine va_get (D := D) (ci := 3) (v := .ref q1) (C := RX1) (T := TX1) (N := 4) hx hb hts in_X1_isUnder_X1 hown hK hP 0 rfl rfl 0 (by decide) (hts (.fieldLink RX1 9 "Nearestclock" "held" "[I") (List.mem_of_getElem? (i := 1) rfl)) (fun _ h9 => h9) rfl dX1_isUnder_1 ?_
  refine lv_iload_n hx hb dX1_isUnder_4 rfl (lv_at hl 1 rfl) ?_
  refine va_iald hx hb hK hP 1 0 rfl rfl (by assumption) dX1_isUnder_5 ?_
  refine lv_if_lt (tgt := 18) hx hb dX1_isUnder_6 (by decide) (fun c_6 => ?_) (fun c_6 => ?_)
  · refine lv_iconst (v := 1) hx hb dX1_isUnder_18 (by decide) ?_
    refine lv_goto (tgt := 23) hx hb dX1_isUnder_19 (by decide) ?_
    exact W.zret (v := 1) hx hb hr (by decide) (fun t ht hW => ⟨1, rfl, (n_un1 c_6), ht⟩) (fun q hq => absurd hq List.not_mem_nil) dX1_isUnder_23
  · refine lv_aload_n hx hb dX1_isUnder_9 rfl (lv_at hl 0 rfl) ?_
    refine va_get (D := D) (ci := 3) (v := .ref q2) (C := RX1) (T := TX1) (N := 4) hx hb hts in_X1_isUnder_X1 hown hK hP 0 rfl rfl 1 (by decide) (hts (.fieldLink RX1 13 "Nearestclock" "isBelow" "[Z") (List.mem_of_getElem? (i := 2) rfl)) (fun _ h9 => h9) rfl dX1_isUnder_10 ?_
    refine lv_iload_n hx hb dX1_isUnder_13 rfl (lv_at hl 1 rfl) ?_
    refine va_zald hx hb hK hP 2 1 rfl rfl (by assumption) dX1_isUnder_14 ?_
    refine lv_if_eq (tgt := 22) hx hb dX1_isUnder_15 (by decide) (fun c_15 => ?_) (fun c_15 => ?_)
    · refine lv_iconst (v := 0) hx hb dX1_isUnder_22 (by decide) ?_
      exact W.zret (v := 0) hx hb hr (by decide) (fun t ht hW => ⟨0, rfl, (n_un3 c_6 c_15), ht⟩) (fun q hq => absurd hq List.not_mem_nil) dX1_isUnder_23
    · refine lv_iconst (v := 1) hx hb dX1_isUnder_18 (by decide) ?_
      refine lv_goto (tgt := 23) hx hb dX1_isUnder_19 (by decide) ?_
      exact W.zret (v := 1) hx hb hr (by decide) (fun t ht hW => ⟨1, rfl, (n_un2 gb c_6 c_15), ht⟩) (fun q hq => absurd hq List.not_mem_nil) dX1_isUnder_23
theorem in_X1_keep_X1 : ∀ w ∈ wsX10, w ∈ wsX1_keep := (fun _ h => List.mem_cons_of_mem _ (List.mem_append_left _ (List.mem_append_right _ h)))
set_option maxHeartbeats 4000000 in
set_option maxRecDepth 100000 in
theorem c_X1_keep (l : Launch) (D : va_G) (cI : ClassId) (cZ : ClassId) (o : Nat) (q1 : Nat) (q2 : Nat) (q3 : Nat) (q4 : Nat) (sz : Nat) (hf : Nat → Int32) (bf : Nat → Int32) (i0 : Int32) (i1 : Int32) (i2 : Int32) (gp0 : vp_in i0 12) (ge : ny_R i1) (gz : ny_B i2) : Met l yX1_keep wsX1_keep ({ frames := 3, cells := 0, slots := 0, locals := 72 }) (va_Pc [.ref o, .int i0, .int i1, .int i2] (ny_pre D [(cI, .int), (cZ, .boolean)] [(o, .inr (3, [.ref q1, .ref q2, .ref q3, .ref q4])), (q1, .inl (cI, 12, .inl hf)), (q2, .inl (cZ, 12, .inl bf))] sz)) (va_Ql (fun (r : Int64) (u : Unit) => r = f_bt i1 i2) (fun (u : Unit) t => ny_at D [(cI, .int), (cZ, .boolean)] (va_A [(o, .inr (3, [.ref q1, .ref q2, .ref q3, .ref q4])), (q1, .inl (cI, 12, .inl hf)), (q2, .inl (cZ, 12, .inl bf))] sz) [(o, .inr (3, [.ref q1, .ref q2, .ref q3, .ref q4])), (q1, .inl (cI, 12, .inl (upd hf i0.toNatClampNeg i1))), (q2, .inl (cZ, 12, .inl (upd bf i0.toNatClampNeg i2)))] t) (va_A [(o, .inr (3, [.ref q1, .ref q2, .ref q3, .ref q4])), (q1, .inl (cI, 12, .inl hf)), (q2, .inl (cZ, 12, .inl bf))] sz)) 0 0 (va_A [(o, .inr (3, [.ref q1, .ref q2, .ref q3, .ref q4])), (q1, .inl (cI, 12, .inl hf)), (q2, .inl (cZ, 12, .inl bf))] sz) := by
  refine Met.ofW (cc := cX1_keep) (maxL := 4) (ret := (some .long)) (by decide) rfl ?_
  intro p e s m args below meth c s₁ B hml hv
  obtain ⟨rfl, hsz, hP, hK, hD0, hE⟩ := hv
  have hx := B.exec
  have hb := B.bytes
  have hr := B.returns
  have hts := atoms_spec (ws := wsX1_keep) B.pre
  have hown : s.vm.findClass RX1 = some m.cls := findClass_of_methodNamed B.named
  have hlocks := B.notSynchronized
  subst hsz
  have hD := hD0.self (sz := s.heap.size)
  generalize hAe : va_A [(o, .inr (3, [.ref q1, .ref q2, .ref q3, .ref q4])), (q1, .inl (cI, 12, .inl hf)), (q2, .inl (cZ, 12, .inl bf))] s.heap.size = A at hD hE ⊢
  have hA : ∀ q : Nat, s.heap.size ≤ q → A q := fun q h => by rw [← hAe]; exact Or.inr h
  have hS : va_S A s.heap s.heap [] := va_S.rf
  have hl := lv_entry ([.ref o, .int i0, .int i1, .int i2]) (n := 4) (Nat.le_of_ble_eq_true rfl)
  rw [lg_entry_eq]
  generalize (lg_sl ([.ref o, .int i0, .int i1, .int i2]) ++ List.replicate (4 - (lg_sl ([.ref o, .int i0, .int i1, .int i2])).length) Slot.unset).toArray = ls at hl ⊢
  have hl : lv_has ls 4 [(0, .ref o), (1, .int i0), (2, .int i1), (3, .int i2)] := hl
  refine lv_aload_n hx hb dX1_keep_0 rfl (lv_at hl 0 rfl) ?_
  refine va_get (D := D) (ci := 3) (v := .ref q1) (C := RX1) (T := TX1) (N := 4) hx hb hts in_X1_keep_X1 hown hK hP 0 rfl rfl 0 (by decide) (hts (.fieldLink RX1 9 "Nearestclock" "held" "[I") (List.mem_of_getElem? (i := 1) rfl)) (fun _ h9 => h9) rfl dX1_keep_1 ?_
  refine lv_iload_n hx hb dX1_keep_4 rfl (lv_at hl 1 rfl) ?_
  refine lv_iload_n hx hb dX1_keep_5 rfl (lv_at hl 2 rfl) ?_
  refine va_iast hx hb hK hP hD hS 1 0 rfl rfl (by assumption) dX1_keep_6 (fun H locs hP hD hS => ?_)
  have hP : va_P D vwCl [(o, .inr (3, [.ref q1, .ref q2, .ref q3, .ref q4])), (q1, .inl (cI, 12, .inl (upd hf i0.toNatClampNeg i1))), (q2, .inl (cZ, 12, .inl bf))] H := hP
  have hD : va_D A [(o, .inr (3, [.ref q1, .ref q2, .ref q3, .ref q4])), (q1, .inl (cI, 12, .inl (upd hf i0.toNatClampNeg i1))), (q2, .inl (cZ, 12, .inl bf))] := hD
  refine lv_aload_n hx hb dX1_keep_7 rfl (lv_at hl 0 rfl) ?_
  refine va_get (D := D) (ci := 3) (v := .ref q2) (C := RX1) (T := TX1) (N := 4) hx hb hts in_X1_keep_X1 hown hK hP 0 rfl rfl 1 (by decide) (hts (.fieldLink RX1 13 "Nearestclock" "isBelow" "[Z") (List.mem_of_getElem? (i := 2) rfl)) (fun _ h9 => h9) rfl dX1_keep_8 ?_
  refine lv_iload_n hx hb dX1_keep_11 rfl (lv_at hl 1 rfl) ?_
  refine lv_iload_n hx hb dX1_keep_12 rfl (lv_at hl 3 rfl) ?_
  refine va_zast hx hb hK hP hD hS 2 1 rfl rfl (by assumption) dX1_keep_13 (fun H locs hP hD hS => ?_)
  rw [ny_nz (by assumption)] at hP hD
  have hP : va_P D vwCl [(o, .inr (3, [.ref q1, .ref q2, .ref q3, .ref q4])), (q1, .inl (cI, 12, .inl (upd hf i0.toNatClampNeg i1))), (q2, .inl (cZ, 12, .inl (upd bf i0.toNatClampNeg i2)))] H := hP
  have hD : va_D A [(o, .inr (3, [.ref q1, .ref q2, .ref q3, .ref q4])), (q1, .inl (cI, 12, .inl (upd hf i0.toNatClampNeg i1))), (q2, .inl (cZ, 12, .inl (upd bf i0.toNatClampNeg i2)))] := hD
  refine lv_aload_n hx hb dX1_keep_14 rfl (lv_at hl 0 rfl) ?_
  refine lv_iload_n hx hb dX1_keep_15 rfl (lv_at hl 1 rfl) ?_
  refine vp_callSl (va_Run.run (va_runV (As := [.int i0]) (rest := []) ⟨hx, hb, hml, hown, hts⟩ (c_X1_bitsAt l D cI cZ o q1 q2 q3 q4 H.size (upd hf i0.toNatClampNeg i1) (upd bf i0.toNatClampNeg i2) i0 (by assumption) (by rw [pk_us]; exact ge)) (cwV 1 hts gX1_keep_X1_bitsAt rfl rfl rfl (by decide +kernel) ⟨Nat.le_of_ble_eq_true rfl, Nat.le_of_ble_eq_true rfl⟩) ⟨ny_blind, va_recv hK hP (ci := 3) (q0 := 0) rfl rfl, fun U hU hW => ⟨rfl, ny_preU hE hP hK hD hS hA [0, 1, 2] rfl (by decide) rfl [0, 1] rfl U hU hW⟩⟩ rfl rfl hl.1 rfl (lv_room (Nat.le_of_ble_eq_true rfl)) dX1_keep_16 ⟨Nat.le_of_ble_eq_true rfl, Nat.le_of_ble_eq_true rfl⟩)) (fun r_16 hw_16 => ?_)
  have hw_16 : r_16 = f_bt ((upd hf i0.toNatClampNeg i1) i0.toNatClampNeg) ((upd bf i0.toNatClampNeg i2) i0.toNatClampNeg) := hw_16
  subst hw_16
  have hP9 := hP.sub (ws' := [(o, .inr (3, [.ref q1, .ref q2, .ref q3, .ref q4])), (q1, .inl (cI, 12, .inl (upd hf i0.toNatClampNeg i1))), (q2, .inl (cZ, 12, .inl (upd bf i0.toNatClampNeg i2)))]) [0, 1, 2] rfl
  have hD9 := hD.sub (ws' := [(o, .inr (3, [.ref q1, .ref q2, .ref q3, .ref q4])), (q1, .inl (cI, 12, .inl (upd hf i0.toNatClampNeg i1))), (q2, .inl (cZ, 12, .inl (upd bf i0.toNatClampNeg i2)))]) [0, 1, 2] (by decide) rfl
  exact W.lret (v := f_bt ((upd hf i0.toNatClampNeg i1) i0.toNatClampNeg) ((upd bf i0.toNatClampNeg i2) i0.toNatClampNeg)) hx hb hr (fun t ht hW => ⟨⟨f_bt ((upd hf i0.toNatClampNeg i1) i0.toNatClampNeg) ((upd bf i0.toNatClampNeg i2) i0.toNatClampNeg), (), rfl, (by rw [pk_us, pk_us]), by rw [ht]; exact hP9, va_K.moved hW.alike hK, hD9⟩, hS.F ht⟩) hS.2.2 dX1_keep_19
set_option maxHeartbeats 4000000 in
set_option maxRecDepth 100000 in
theorem c_X1_keepSigned (l : Launch) (D : va_G) (cI : ClassId) (cZ : ClassId) (o : Nat) (q1 : Nat) (q2 : Nat) (q3 : Nat) (q4 : Nat) (sz : Nat) (hf : Nat → Int32) (bf : Nat → Int32) (i0 : Int32) (i1 : Int32) (i2 : Int32) (gp0 : vp_in i0 12) (gp2 : vp_in i2 12) (ge : ny_R i1) (gb : ny_B (bf i2.toNatClampNeg)) : Met l yX1_keepSigned wsX1_keepSigned ({ frames := 4, cells := 0, slots := 0, locals := 95 }) (va_Pc [.ref o, .int i0, .int i1, .int i2] (ny_pre D [(cI, .int), (cZ, .boolean)] [(o, .inr (3, [.ref q1, .ref q2, .ref q3, .ref q4])), (q1, .inl (cI, 12, .inl hf)), (q2, .inl (cZ, 12, .inl bf))] sz)) (va_Ql (fun (r : Int64) (u : Unit) => r = f_bt i1 (f_un (hf i2.toNatClampNeg) (bf i2.toNatClampNeg))) (fun (u : Unit) t => ny_at D [(cI, .int), (cZ, .boolean)] (va_A [(o, .inr (3, [.ref q1, .ref q2, .ref q3, .ref q4])), (q1, .inl (cI, 12, .inl hf)), (q2, .inl (cZ, 12, .inl bf))] sz) [(o, .inr (3, [.ref q1, .ref q2, .ref q3, .ref q4])), (q1, .inl (cI, 12, .inl (upd hf i0.toNatClampNeg i1))), (q2, .inl (cZ, 12, .inl (upd bf i0.toNatClampNeg (f_z i1 (f_un (hf i2.toNatClampNeg) (bf i2.toNatClampNeg))))))] t) (va_A [(o, .inr (3, [.ref q1, .ref q2, .ref q3, .ref q4])), (q1, .inl (cI, 12, .inl hf)), (q2, .inl (cZ, 12, .inl bf))] sz)) 0 0 (va_A [(o, .inr (3, [.ref q1, .ref q2, .ref q3, .ref q4])), (q1, .inl (cI, 12, .inl hf)), (q2, .inl (cZ, 12, .inl bf))] sz) := by
  refine Met.ofW (cc := cX1_keepSigned) (maxL := 4) (ret := (some .long)) (by decide) rfl ?_
  intro p e s m args below meth c s₁ B hml hv
  obtain ⟨rfl, hsz, hP, hK, hD0, hE⟩ := hv
  have hx := B.exec
  have hb := B.bytes
  have hr := B.returns
  have hts := atoms_spec (ws := wsX1_keepSigned) B.pre
  have hown : s.vm.findClass RX1 = some m.cls := findClass_of_methodNamed B.named
  have hlocks := B.notSynchronized
  subst hsz
  have hD := hD0.self (sz := s.heap.size)
  generalize hAe : va_A [(o, .inr (3, [.ref q1, .ref q2, .ref q3, .ref q4])), (q1, .inl (cI, 12, .inl hf)), (q2, .inl (cZ, 12, .inl bf))] s.heap.size = A at hD hE ⊢
  have hA : ∀ q : Nat, s.heap.size ≤ q → A q := fun q h => by rw [← hAe]; exact Or.inr h
  have hS : va_S A s.heap s.heap [] := va_S.rf
  have hl := lv_entry ([.ref o, .int i0, .int i1, .int i2]) (n := 4) (Nat.le_of_ble_eq_true rfl)
  rw [lg_entry_eq]
  generalize (lg_sl ([.ref o, .int i0, .int i1, .int i2]) ++ List.replicate (4 - (lg_sl ([.ref o, .int i0, .int i1, .int i2])).length) Slot.unset).toArray = ls at hl ⊢
  have hl : lv_has ls 4 [(0, .ref o), (1, .int i0), (2, .int i1), (3, .int i2)] := hl
  refine lv_aload_n hx hb dX1_keepSigned_0 rfl (lv_at hl 0 rfl) ?_
  refine lv_iload_n hx hb dX1_keepSigned_1 rfl (lv_at hl 1 rfl) ?_
  refine lv_iload_n hx hb dX1_keepSigned_2 rfl (lv_at hl 2 rfl) ?_
  refine lv_iload_n hx hb dX1_keepSigned_3 rfl (lv_at hl 2 rfl) ?_
  refine lv_if_ne (tgt := 19) hx hb dX1_keepSigned_4 (by decide) (fun c_4 => ?_) (fun c_4 => ?_)
  · refine lv_iconst (v := 0) hx hb dX1_keepSigned_19 (by decide) ?_
    refine ny_ti (x2 := f_z i1 (f_un (hf i2.toNatClampNeg) (bf i2.toNatClampNeg))) (n_zn c_4) ?_
    refine ny_l (wc := [(o, .inr (3, [.ref q1, .ref q2, .ref q3, .ref q4])), (q1, .inl (cI, 12, .inl hf)), (q2, .inl (cZ, 12, .inl bf))]) (wr := []) hP hD hS hA [0, 1, 2] [] rfl rfl (by decide) (by decide) (va_runV (As := [.int i0, .int i1, .int (f_z i1 (f_un (hf i2.toNatClampNeg) (bf i2.toNatClampNeg)))]) (rest := []) ⟨hx, hb, hml, hown, hts⟩ (c_X1_keep l D cI cZ o q1 q2 q3 q4 s.heap.size hf bf i0 i1 (f_z i1 (f_un (hf i2.toNatClampNeg) (bf i2.toNatClampNeg))) (by assumption) (by assumption) (f_z_B (f_un_B gb))) (cwV 3 hts gX1_keepSigned_X1_keep rfl rfl rfl (by decide +kernel) ⟨Nat.le_of_ble_eq_true rfl, Nat.le_of_ble_eq_true rfl⟩) ⟨ny_blind, va_recv hK hP (ci := 3) (q0 := 0) rfl rfl, fun U hU hW => ⟨rfl, ny_preU hE hP hK hD hS hA [0, 1, 2] rfl (by decide) rfl [0, 1] rfl U hU hW⟩⟩ rfl rfl hl.1 rfl (lv_room (Nat.le_of_ble_eq_true rfl)) dX1_keepSigned_20 ⟨Nat.le_of_ble_eq_true rfl, Nat.le_of_ble_eq_true rfl⟩) (fun r_20 u H locs hw_20 hP hD hS => ?_)
    have hP : va_P D vwCl [(o, .inr (3, [.ref q1, .ref q2, .ref q3, .ref q4])), (q1, .inl (cI, 12, .inl (upd hf i0.toNatClampNeg i1))), (q2, .inl (cZ, 12, .inl (upd bf i0.toNatClampNeg (f_z i1 (f_un (hf i2.toNatClampNeg) (bf i2.toNatClampNeg))))))] H := hP
    have hD : va_D A [(o, .inr (3, [.ref q1, .ref q2, .ref q3, .ref q4])), (q1, .inl (cI, 12, .inl (upd hf i0.toNatClampNeg i1))), (q2, .inl (cZ, 12, .inl (upd bf i0.toNatClampNeg (f_z i1 (f_un (hf i2.toNatClampNeg) (bf i2.toNatClampNeg))))))] := hD
    have hw_20 : r_20 = f_bt i1 (f_z i1 (f_un (hf i2.toNatClampNeg) (bf i2.toNatClampNeg))) := hw_20
    subst hw_20
    have hP9 := hP.sub (ws' := [(o, .inr (3, [.ref q1, .ref q2, .ref q3, .ref q4])), (q1, .inl (cI, 12, .inl (upd hf i0.toNatClampNeg i1))), (q2, .inl (cZ, 12, .inl (upd bf i0.toNatClampNeg (f_z i1 (f_un (hf i2.toNatClampNeg) (bf i2.toNatClampNeg))))))]) [0, 1, 2] rfl
    have hD9 := hD.sub (ws' := [(o, .inr (3, [.ref q1, .ref q2, .ref q3, .ref q4])), (q1, .inl (cI, 12, .inl (upd hf i0.toNatClampNeg i1))), (q2, .inl (cZ, 12, .inl (upd bf i0.toNatClampNeg (f_z i1 (f_un (hf i2.toNatClampNeg) (bf i2.toNatClampNeg))))))]) [0, 1, 2] (by decide) rfl
    exact W.lret (v := f_bt i1 (f_z i1 (f_un (hf i2.toNatClampNeg) (bf i2.toNatClampNeg)))) hx hb hr (fun t ht hW => ⟨⟨f_bt i1 (f_z i1 (f_un (hf i2.toNatClampNeg) (bf i2.toNatClampNeg))), (), rfl, (f_bt_z _ _), by rw [ht]; exact hP9, va_K.moved hW.alike hK, hD9⟩, hS.F ht⟩) hS.2.2 dX1_keepSigned_23
  · refine lv_aload_n hx hb dX1_keepSigned_7 rfl (lv_at hl 0 rfl) ?_
    refine lv_iload_n hx hb dX1_keepSigned_8 rfl (lv_at hl 3 rfl) ?_
    refine vp_callSi (va_Run.run (va_runV (As := [.int i2]) (rest := [.int i1, .int i0, .ref o]) ⟨hx, hb, hml, hown, hts⟩ (c_X1_isUnder l D cI cZ o q1 q2 q3 q4 s.heap.size hf bf i2 (by assumption) (by assumption)) (cwV 1 hts gX1_keepSigned_X1_isUnder rfl rfl rfl (by decide +kernel) ⟨Nat.le_of_ble_eq_true rfl, Nat.le_of_ble_eq_true rfl⟩) ⟨ny_blind, va_recv hK hP (ci := 3) (q0 := 0) rfl rfl, fun U hU hW => ⟨rfl, ny_preU hE hP hK hD hS hA [0, 1, 2] rfl (by decide) rfl [0, 1] rfl U hU hW⟩⟩ rfl rfl hl.1 rfl (lv_room (Nat.le_of_ble_eq_true rfl)) dX1_keepSigned_9 ⟨Nat.le_of_ble_eq_true rfl, Nat.le_of_ble_eq_true rfl⟩)) (fun r_9 hw_9 => ?_)
    have hw_9 : r_9 = f_un (hf i2.toNatClampNeg) (bf i2.toNatClampNeg) := hw_9
    subst hw_9
    refine lv_if_eq (tgt := 19) hx hb dX1_keepSigned_12 (by decide) (fun c_12 => ?_) (fun c_12 => ?_)
    · refine lv_iconst (v := 0) hx hb dX1_keepSigned_19 (by decide) ?_
      refine ny_ti (x2 := f_z i1 (f_un (hf i2.toNatClampNeg) (bf i2.toNatClampNeg))) (n_z0 c_12.symm) ?_
      refine ny_l (wc := [(o, .inr (3, [.ref q1, .ref q2, .ref q3, .ref q4])), (q1, .inl (cI, 12, .inl hf)), (q2, .inl (cZ, 12, .inl bf))]) (wr := []) hP hD hS hA [0, 1, 2] [] rfl rfl (by decide) (by decide) (va_runV (As := [.int i0, .int i1, .int (f_z i1 (f_un (hf i2.toNatClampNeg) (bf i2.toNatClampNeg)))]) (rest := []) ⟨hx, hb, hml, hown, hts⟩ (c_X1_keep l D cI cZ o q1 q2 q3 q4 s.heap.size hf bf i0 i1 (f_z i1 (f_un (hf i2.toNatClampNeg) (bf i2.toNatClampNeg))) (by assumption) (by assumption) (f_z_B (f_un_B gb))) (cwV 3 hts gX1_keepSigned_X1_keep rfl rfl rfl (by decide +kernel) ⟨Nat.le_of_ble_eq_true rfl, Nat.le_of_ble_eq_true rfl⟩) ⟨ny_blind, va_recv hK hP (ci := 3) (q0 := 0) rfl rfl, fun U hU hW => ⟨rfl, ny_preU hE hP hK hD hS hA [0, 1, 2] rfl (by decide) rfl [0, 1] rfl U hU hW⟩⟩ rfl rfl hl.1 rfl (lv_room (Nat.le_of_ble_eq_true rfl)) dX1_keepSigned_20 ⟨Nat.le_of_ble_eq_true rfl, Nat.le_of_ble_eq_true rfl⟩) (fun r_20 u H locs hw_20 hP hD hS => ?_)
      have hP : va_P D vwCl [(o, .inr (3, [.ref q1, .ref q2, .ref q3, .ref q4])), (q1, .inl (cI, 12, .inl (upd hf i0.toNatClampNeg i1))), (q2, .inl (cZ, 12, .inl (upd bf i0.toNatClampNeg (f_z i1 (f_un (hf i2.toNatClampNeg) (bf i2.toNatClampNeg))))))] H := hP
      have hD : va_D A [(o, .inr (3, [.ref q1, .ref q2, .ref q3, .ref q4])), (q1, .inl (cI, 12, .inl (upd hf i0.toNatClampNeg i1))), (q2, .inl (cZ, 12, .inl (upd bf i0.toNatClampNeg (f_z i1 (f_un (hf i2.toNatClampNeg) (bf i2.toNatClampNeg))))))] := hD
      have hw_20 : r_20 = f_bt i1 (f_z i1 (f_un (hf i2.toNatClampNeg) (bf i2.toNatClampNeg))) := hw_20
      subst hw_20
      have hP9 := hP.sub (ws' := [(o, .inr (3, [.ref q1, .ref q2, .ref q3, .ref q4])), (q1, .inl (cI, 12, .inl (upd hf i0.toNatClampNeg i1))), (q2, .inl (cZ, 12, .inl (upd bf i0.toNatClampNeg (f_z i1 (f_un (hf i2.toNatClampNeg) (bf i2.toNatClampNeg))))))]) [0, 1, 2] rfl
      have hD9 := hD.sub (ws' := [(o, .inr (3, [.ref q1, .ref q2, .ref q3, .ref q4])), (q1, .inl (cI, 12, .inl (upd hf i0.toNatClampNeg i1))), (q2, .inl (cZ, 12, .inl (upd bf i0.toNatClampNeg (f_z i1 (f_un (hf i2.toNatClampNeg) (bf i2.toNatClampNeg))))))]) [0, 1, 2] (by decide) rfl
      exact W.lret (v := f_bt i1 (f_z i1 (f_un (hf i2.toNatClampNeg) (bf i2.toNatClampNeg)))) hx hb hr (fun t ht hW => ⟨⟨f_bt i1 (f_z i1 (f_un (hf i2.toNatClampNeg) (bf i2.toNatClampNeg))), (), rfl, (f_bt_z _ _), by rw [ht]; exact hP9, va_K.moved hW.alike hK, hD9⟩, hS.F ht⟩) hS.2.2 dX1_keepSigned_23
    · refine lv_iconst (v := 1) hx hb dX1_keepSigned_15 (by decide) ?_
      refine lv_goto (tgt := 20) hx hb dX1_keepSigned_16 (by decide) ?_
      refine ny_ti (x2 := f_z i1 (f_un (hf i2.toNatClampNeg) (bf i2.toNatClampNeg))) (n_z1 c_4 (Or.resolve_left (f_un_B gb) c_12).symm) ?_
      refine ny_l (wc := [(o, .inr (3, [.ref q1, .ref q2, .ref q3, .ref q4])), (q1, .inl (cI, 12, .inl hf)), (q2, .inl (cZ, 12, .inl bf))]) (wr := []) hP hD hS hA [0, 1, 2] [] rfl rfl (by decide) (by decide) (va_runV (As := [.int i0, .int i1, .int (f_z i1 (f_un (hf i2.toNatClampNeg) (bf i2.toNatClampNeg)))]) (rest := []) ⟨hx, hb, hml, hown, hts⟩ (c_X1_keep l D cI cZ o q1 q2 q3 q4 s.heap.size hf bf i0 i1 (f_z i1 (f_un (hf i2.toNatClampNeg) (bf i2.toNatClampNeg))) (by assumption) (by assumption) (f_z_B (f_un_B gb))) (cwV 3 hts gX1_keepSigned_X1_keep rfl rfl rfl (by decide +kernel) ⟨Nat.le_of_ble_eq_true rfl, Nat.le_of_ble_eq_true rfl⟩) ⟨ny_blind, va_recv hK hP (ci := 3) (q0 := 0) rfl rfl, fun U hU hW => ⟨rfl, ny_preU hE hP hK hD hS hA [0, 1, 2] rfl (by decide) rfl [0, 1] rfl U hU hW⟩⟩ rfl rfl hl.1 rfl (lv_room (Nat.le_of_ble_eq_true rfl)) dX1_keepSigned_20 ⟨Nat.le_of_ble_eq_true rfl, Nat.le_of_ble_eq_true rfl⟩) (fun r_20 u H locs hw_20 hP hD hS => ?_)
      have hP : va_P D vwCl [(o, .inr (3, [.ref q1, .ref q2, .ref q3, .ref q4])), (q1, .inl (cI, 12, .inl (upd hf i0.toNatClampNeg i1))), (q2, .inl (cZ, 12, .inl (upd bf i0.toNatClampNeg (f_z i1 (f_un (hf i2.toNatClampNeg) (bf i2.toNatClampNeg))))))] H := hP
      have hD : va_D A [(o, .inr (3, [.ref q1, .ref q2, .ref q3, .ref q4])), (q1, .inl (cI, 12, .inl (upd hf i0.toNatClampNeg i1))), (q2, .inl (cZ, 12, .inl (upd bf i0.toNatClampNeg (f_z i1 (f_un (hf i2.toNatClampNeg) (bf i2.toNatClampNeg))))))] := hD
      have hw_20 : r_20 = f_bt i1 (f_z i1 (f_un (hf i2.toNatClampNeg) (bf i2.toNatClampNeg))) := hw_20
      subst hw_20
      have hP9 := hP.sub (ws' := [(o, .inr (3, [.ref q1, .ref q2, .ref q3, .ref q4])), (q1, .inl (cI, 12, .inl (upd hf i0.toNatClampNeg i1))), (q2, .inl (cZ, 12, .inl (upd bf i0.toNatClampNeg (f_z i1 (f_un (hf i2.toNatClampNeg) (bf i2.toNatClampNeg))))))]) [0, 1, 2] rfl
      have hD9 := hD.sub (ws' := [(o, .inr (3, [.ref q1, .ref q2, .ref q3, .ref q4])), (q1, .inl (cI, 12, .inl (upd hf i0.toNatClampNeg i1))), (q2, .inl (cZ, 12, .inl (upd bf i0.toNatClampNeg (f_z i1 (f_un (hf i2.toNatClampNeg) (bf i2.toNatClampNeg))))))]) [0, 1, 2] (by decide) rfl
      exact W.lret (v := f_bt i1 (f_z i1 (f_un (hf i2.toNatClampNeg) (bf i2.toNatClampNeg)))) hx hb hr (fun t ht hW => ⟨⟨f_bt i1 (f_z i1 (f_un (hf i2.toNatClampNeg) (bf i2.toNatClampNeg))), (), rfl, (f_bt_z _ _), by rw [ht]; exact hP9, va_K.moved hW.alike hK, hD9⟩, hS.F ht⟩) hS.2.2 dX1_keepSigned_23
theorem in_X1_keepRest_X1 : ∀ w ∈ wsX10, w ∈ wsX1_keepRest := (fun _ h => List.mem_cons_of_mem _ (List.mem_append_left _ (List.mem_append_left _ (List.mem_append_left _ (List.mem_append_left _ (List.mem_append_right _ h))))))
set_option maxHeartbeats 4000000 in
set_option maxRecDepth 100000 in
theorem c_X1_keepRest (l : Launch) (D : va_G) (cI : ClassId) (cZ : ClassId) (o : Nat) (q1 : Nat) (q2 : Nat) (q3 : Nat) (q4 : Nat) (sz : Nat) (hf : Nat → Int32) (bf : Nat → Int32) (i0 : Int32) (i1 : Int32) (i2 : Int32) (gp0 : vp_in i0 12) (gp1 : vp_in i1 12) (gp2 : vp_in i2 12) (g0 : ¬ hf i2.toNatClampNeg = 0) (gH : ny_H hf) (gB : ny_BB bf) : Met l yX1_keepRest wsX1_keepRest ({ frames := 5, cells := 0, slots := 0, locals := 118 }) (va_Pc [.ref o, .int i0, .int i1, .int i2] (ny_pre D [(cI, .int), (cZ, .boolean)] [(o, .inr (3, [.ref q1, .ref q2, .ref q3, .ref q4])), (q1, .inl (cI, 12, .inl hf)), (q2, .inl (cZ, 12, .inl bf))] sz)) (va_Ql (fun (r : Int64) (u : Unit) => r = f_bt (f_re (hf i1.toNatClampNeg) (hf i2.toNatClampNeg)) (f_un (hf i1.toNatClampNeg) (bf i1.toNatClampNeg))) (fun (u : Unit) t => ny_at D [(cI, .int), (cZ, .boolean)] (va_A [(o, .inr (3, [.ref q1, .ref q2, .ref q3, .ref q4])), (q1, .inl (cI, 12, .inl hf)), (q2, .inl (cZ, 12, .inl bf))] sz) [(o, .inr (3, [.ref q1, .ref q2, .ref q3, .ref q4])), (q1, .inl (cI, 12, .inl (upd hf i0.toNatClampNeg (f_re (hf i1.toNatClampNeg) (hf i2.toNatClampNeg))))), (q2, .inl (cZ, 12, .inl (upd bf i0.toNatClampNeg (f_z (f_re (hf i1.toNatClampNeg) (hf i2.toNatClampNeg)) (f_un (hf i1.toNatClampNeg) (bf i1.toNatClampNeg))))))] t) (va_A [(o, .inr (3, [.ref q1, .ref q2, .ref q3, .ref q4])), (q1, .inl (cI, 12, .inl hf)), (q2, .inl (cZ, 12, .inl bf))] sz)) 0 0 (va_A [(o, .inr (3, [.ref q1, .ref q2, .ref q3, .ref q4])), (q1, .inl (cI, 12, .inl hf)), (q2, .inl (cZ, 12, .inl bf))] sz) := by
  refine Met.ofW (cc := cX1_keepRest) (maxL := 4) (ret := (some .long)) (by decide) rfl ?_
  intro p e s m args below meth c s₁ B hml hv
  obtain ⟨rfl, hsz, hP, hK, hD0, hE⟩ := hv
  have hx := B.exec
  have hb := B.bytes
  have hr := B.returns
  have hts := atoms_spec (ws := wsX1_keepRest) B.pre
  have hown : s.vm.findClass RX1 = some m.cls := findClass_of_methodNamed B.named
  have hlocks := B.notSynchronized
  subst hsz
  have hD := hD0.self (sz := s.heap.size)
  generalize hAe : va_A [(o, .inr (3, [.ref q1, .ref q2, .ref q3, .ref q4])), (q1, .inl (cI, 12, .inl hf)), (q2, .inl (cZ, 12, .inl bf))] s.heap.size = A at hD hE ⊢
  have hA : ∀ q : Nat, s.heap.size ≤ q → A q := fun q h => by rw [← hAe]; exact Or.inr h
  have hS : va_S A s.heap s.heap [] := va_S.rf
  have hl := lv_entry ([.ref o, .int i0, .int i1, .int i2]) (n := 4) (Nat.le_of_ble_eq_true rfl)
  rw [lg_entry_eq]
  generalize (lg_sl ([.ref o, .int i0, .int i1, .int i2]) ++ List.replicate (4 - (lg_sl ([.ref o, .int i0, .int i1, .int i2])).length) Slot.unset).toArray = ls at hl ⊢
  have hl : lv_has ls 4 [(0, .ref o), (1, .int i0), (2, .int i1), (3, .int i2)] := hl
  refine lv_iload_n hx hb dX1_keepRest_0 rfl (lv_at hl 1 rfl) ?_
  refine va_csv (va_Run.run (va_runS (As := [.int i0]) (rest := []) ⟨hx, hb, hml, hown, hts⟩ (c_X1_needPlace l i0 (by assumption)) (va_cwS 1 hts gX1_keepRest_X1_needPlace rfl rfl rfl (by decide +kernel) ⟨Nat.le_of_ble_eq_true rfl, Nat.le_of_ble_eq_true rfl⟩) ⟨ny_blindT, fun U hU hW => ⟨rfl, trivial⟩⟩ rfl rfl hl.1 rfl (lv_room (Nat.le_of_ble_eq_true rfl)) dX1_keepRest_1 ⟨Nat.le_of_ble_eq_true rfl, Nat.le_of_ble_eq_true rfl⟩)) (fun hw => ?_)
  refine lv_aload_n hx hb dX1_keepRest_4 rfl (lv_at hl 0 rfl) ?_
  refine lv_iload_n hx hb dX1_keepRest_5 rfl (lv_at hl 2 rfl) ?_
  refine lv_iload_n hx hb dX1_keepRest_6 rfl (lv_at hl 3 rfl) ?_
  refine va_csv (va_Run.run (va_runV (As := [.int i1, .int i2]) (rest := []) ⟨hx, hb, hml, hown, hts⟩ (c_X1_needDivision l D cI cZ o q1 q2 q3 q4 s.heap.size hf bf i1 i2 (by assumption) (by assumption) (by assumption)) (cwV 2 hts gX1_keepRest_X1_needDivision rfl rfl rfl (by decide +kernel) ⟨Nat.le_of_ble_eq_true rfl, Nat.le_of_ble_eq_true rfl⟩) ⟨ny_blind, va_recv hK hP (ci := 3) (q0 := 0) rfl rfl, fun U hU hW => ⟨rfl, ny_preU hE hP hK hD hS hA [0, 1, 2] rfl (by decide) rfl [0, 1] rfl U hU hW⟩⟩ rfl rfl hl.1 rfl (lv_room (Nat.le_of_ble_eq_true rfl)) dX1_keepRest_7 ⟨Nat.le_of_ble_eq_true rfl, Nat.le_of_ble_eq_true rfl⟩)) (fun hw => ?_)
  refine lv_aload_n hx hb dX1_keepRest_10 rfl (lv_at hl 0 rfl) ?_
  refine lv_iload_n hx hb dX1_keepRest_11 rfl (lv_at hl 1 rfl) ?_
  refine lv_aload_n hx hb dX1_keepRest_12 rfl (lv_at hl 0 rfl) ?_
  refine va_get (D := D) (ci := 3) (v := .ref q1) (C := RX1) (T := TX1) (N := 4) hx hb hts in_X1_keepRest_X1 hown hK hP 0 rfl rfl 0 (by decide) (hts (.fieldLink RX1 9 "Nearestclock" "held" "[I") (List.mem_of_getElem? (i := 1) rfl)) (fun _ h9 => h9) rfl dX1_keepRest_13 ?_
  refine lv_iload_n hx hb dX1_keepRest_16 rfl (lv_at hl 2 rfl) ?_
  refine va_iald hx hb hK hP 1 0 rfl rfl (by assumption) dX1_keepRest_17 ?_
  refine lv_aload_n hx hb dX1_keepRest_18 rfl (lv_at hl 0 rfl) ?_
  refine va_get (D := D) (ci := 3) (v := .ref q1) (C := RX1) (T := TX1) (N := 4) hx hb hts in_X1_keepRest_X1 hown hK hP 0 rfl rfl 0 (by decide) (hts (.fieldLink RX1 9 "Nearestclock" "held" "[I") (List.mem_of_getElem? (i := 1) rfl)) (fun _ h9 => h9) rfl dX1_keepRest_19 ?_
  refine lv_iload_n hx hb dX1_keepRest_22 rfl (lv_at hl 3 rfl) ?_
  refine va_iald hx hb hK hP 1 0 rfl rfl (by assumption) dX1_keepRest_23 ?_
  refine vp_callSi (va_Run.run (va_runS (As := [.int (hf i1.toNatClampNeg), .int (hf i2.toNatClampNeg)]) (rest := [.int i0, .ref o]) ⟨hx, hb, hml, hown, hts⟩ (c_X1_restOf l (hf i1.toNatClampNeg) (hf i2.toNatClampNeg) (gH _ (n_ix gp1)) (gH _ (n_ix gp2)) (by assumption)) (va_cwS 2 hts gX1_keepRest_X1_restOf rfl rfl rfl (by decide +kernel) ⟨Nat.le_of_ble_eq_true rfl, Nat.le_of_ble_eq_true rfl⟩) ⟨ny_blindT, fun U hU hW => ⟨rfl, trivial⟩⟩ rfl rfl hl.1 rfl (lv_room (Nat.le_of_ble_eq_true rfl)) dX1_keepRest_24 ⟨Nat.le_of_ble_eq_true rfl, Nat.le_of_ble_eq_true rfl⟩)) (fun r_24 hw_24 => ?_)
  have hw_24 : r_24 = f_re (hf i1.toNatClampNeg) (hf i2.toNatClampNeg) := hw_24
  subst hw_24
  refine lv_iload_n hx hb dX1_keepRest_27 rfl (lv_at hl 2 rfl) ?_
  refine ny_l (wc := [(o, .inr (3, [.ref q1, .ref q2, .ref q3, .ref q4])), (q1, .inl (cI, 12, .inl hf)), (q2, .inl (cZ, 12, .inl bf))]) (wr := []) hP hD hS hA [0, 1, 2] [] rfl rfl (by decide) (by decide) (va_runV (As := [.int i0, .int (f_re (hf i1.toNatClampNeg) (hf i2.toNatClampNeg)), .int i1]) (rest := []) ⟨hx, hb, hml, hown, hts⟩ (c_X1_keepSigned l D cI cZ o q1 q2 q3 q4 s.heap.size hf bf i0 (f_re (hf i1.toNatClampNeg) (hf i2.toNatClampNeg)) i1 (by assumption) (by assumption) (ny_R_re (gH _ (n_ix gp2)) g0) (gB _ (n_ix gp1))) (cwV 3 hts gX1_keepRest_X1_keepSigned rfl rfl rfl (by decide +kernel) ⟨Nat.le_of_ble_eq_true rfl, Nat.le_of_ble_eq_true rfl⟩) ⟨ny_blind, va_recv hK hP (ci := 3) (q0 := 0) rfl rfl, fun U hU hW => ⟨rfl, ny_preU hE hP hK hD hS hA [0, 1, 2] rfl (by decide) rfl [0, 1] rfl U hU hW⟩⟩ rfl rfl hl.1 rfl (lv_room (Nat.le_of_ble_eq_true rfl)) dX1_keepRest_28 ⟨Nat.le_of_ble_eq_true rfl, Nat.le_of_ble_eq_true rfl⟩) (fun r_28 u H locs hw_28 hP hD hS => ?_)
  have hP : va_P D vwCl [(o, .inr (3, [.ref q1, .ref q2, .ref q3, .ref q4])), (q1, .inl (cI, 12, .inl (upd hf i0.toNatClampNeg (f_re (hf i1.toNatClampNeg) (hf i2.toNatClampNeg))))), (q2, .inl (cZ, 12, .inl (upd bf i0.toNatClampNeg (f_z (f_re (hf i1.toNatClampNeg) (hf i2.toNatClampNeg)) (f_un (hf i1.toNatClampNeg) (bf i1.toNatClampNeg))))))] H := hP
  have hD : va_D A [(o, .inr (3, [.ref q1, .ref q2, .ref q3, .ref q4])), (q1, .inl (cI, 12, .inl (upd hf i0.toNatClampNeg (f_re (hf i1.toNatClampNeg) (hf i2.toNatClampNeg))))), (q2, .inl (cZ, 12, .inl (upd bf i0.toNatClampNeg (f_z (f_re (hf i1.toNatClampNeg) (hf i2.toNatClampNeg)) (f_un (hf i1.toNatClampNeg) (bf i1.toNatClampNeg))))))] := hD
  have hw_28 : r_28 = f_bt (f_re (hf i1.toNatClampNeg) (hf i2.toNatClampNeg)) (f_un (hf i1.toNatClampNeg) (bf i1.toNatClampNeg)) := hw_28
  subst hw_28
  have hP9 := hP.sub (ws' := [(o, .inr (3, [.ref q1, .ref q2, .ref q3, .ref q4])), (q1, .inl (cI, 12, .inl (upd hf i0.toNatClampNeg (f_re (hf i1.toNatClampNeg) (hf i2.toNatClampNeg))))), (q2, .inl (cZ, 12, .inl (upd bf i0.toNatClampNeg (f_z (f_re (hf i1.toNatClampNeg) (hf i2.toNatClampNeg)) (f_un (hf i1.toNatClampNeg) (bf i1.toNatClampNeg))))))]) [0, 1, 2] rfl
  have hD9 := hD.sub (ws' := [(o, .inr (3, [.ref q1, .ref q2, .ref q3, .ref q4])), (q1, .inl (cI, 12, .inl (upd hf i0.toNatClampNeg (f_re (hf i1.toNatClampNeg) (hf i2.toNatClampNeg))))), (q2, .inl (cZ, 12, .inl (upd bf i0.toNatClampNeg (f_z (f_re (hf i1.toNatClampNeg) (hf i2.toNatClampNeg)) (f_un (hf i1.toNatClampNeg) (bf i1.toNatClampNeg))))))]) [0, 1, 2] (by decide) rfl
  exact W.lret (v := f_bt (f_re (hf i1.toNatClampNeg) (hf i2.toNatClampNeg)) (f_un (hf i1.toNatClampNeg) (bf i1.toNatClampNeg))) hx hb hr (fun t ht hW => ⟨⟨f_bt (f_re (hf i1.toNatClampNeg) (hf i2.toNatClampNeg)) (f_un (hf i1.toNatClampNeg) (bf i1.toNatClampNeg)), (), rfl, (rfl), by rw [ht]; exact hP9, va_K.moved hW.alike hK, hD9⟩, hS.F ht⟩) hS.2.2 dX1_keepRest_31
theorem in_X1_keepResidue_X1 : ∀ w ∈ wsX10, w ∈ wsX1_keepResidue := (fun _ h => List.mem_cons_of_mem _ (List.mem_append_left _ (List.mem_append_left _ (List.mem_append_right _ h))))
set_option maxHeartbeats 4000000 in
set_option maxRecDepth 100000 in
theorem c_X1_keepResidue (l : Launch) (D : va_G) (cI : ClassId) (cZ : ClassId) (o : Nat) (q1 : Nat) (q2 : Nat) (q3 : Nat) (q4 : Nat) (sz : Nat) (hf : Nat → Int32) (bf : Nat → Int32) (i0 : Int32) (v : Int64) (i1 : Int32) (gp0 : vp_in i0 12) (gp1 : vp_in i1 12) (g0 : ¬ hf i1.toNatClampNeg = 0) (gH : ny_H hf) (gv : -9223372036854775808 < v.toInt) : Met l yX1_keepResidue wsX1_keepResidue ({ frames := 4, cells := 0, slots := 0, locals := 95 }) (va_Pc [.ref o, .int i0, .long v, .int i1] (ny_pre D [(cI, .int), (cZ, .boolean)] [(o, .inr (3, [.ref q1, .ref q2, .ref q3, .ref q4])), (q1, .inl (cI, 12, .inl hf)), (q2, .inl (cZ, 12, .inl bf))] sz)) (va_Ql (fun (r : Int64) (u : Unit) => r = f_bt (f_rs v (hf i1.toNatClampNeg)) 0) (fun (u : Unit) t => ny_at D [(cI, .int), (cZ, .boolean)] (va_A [(o, .inr (3, [.ref q1, .ref q2, .ref q3, .ref q4])), (q1, .inl (cI, 12, .inl hf)), (q2, .inl (cZ, 12, .inl bf))] sz) [(o, .inr (3, [.ref q1, .ref q2, .ref q3, .ref q4])), (q1, .inl (cI, 12, .inl (upd hf i0.toNatClampNeg (f_rs v (hf i1.toNatClampNeg))))), (q2, .inl (cZ, 12, .inl (upd bf i0.toNatClampNeg 0)))] t) (va_A [(o, .inr (3, [.ref q1, .ref q2, .ref q3, .ref q4])), (q1, .inl (cI, 12, .inl hf)), (q2, .inl (cZ, 12, .inl bf))] sz)) 0 0 (va_A [(o, .inr (3, [.ref q1, .ref q2, .ref q3, .ref q4])), (q1, .inl (cI, 12, .inl hf)), (q2, .inl (cZ, 12, .inl bf))] sz) := by
  refine Met.ofW (cc := cX1_keepResidue) (maxL := 5) (ret := (some .long)) (by decide) rfl ?_
  intro p e s m args below meth c s₁ B hml hv
  obtain ⟨rfl, hsz, hP, hK, hD0, hE⟩ := hv
  have hx := B.exec
  have hb := B.bytes
  have hr := B.returns
  have hts := atoms_spec (ws := wsX1_keepResidue) B.pre
  have hown : s.vm.findClass RX1 = some m.cls := findClass_of_methodNamed B.named
  have hlocks := B.notSynchronized
  subst hsz
  have hD := hD0.self (sz := s.heap.size)
  generalize hAe : va_A [(o, .inr (3, [.ref q1, .ref q2, .ref q3, .ref q4])), (q1, .inl (cI, 12, .inl hf)), (q2, .inl (cZ, 12, .inl bf))] s.heap.size = A at hD hE ⊢
  have hA : ∀ q : Nat, s.heap.size ≤ q → A q := fun q h => by rw [← hAe]; exact Or.inr h
  have hS : va_S A s.heap s.heap [] := va_S.rf
  have hl := lv_entry ([.ref o, .int i0, .long v, .int i1]) (n := 5) (Nat.le_of_ble_eq_true rfl)
  rw [lg_entry_eq]
  generalize (lg_sl ([.ref o, .int i0, .long v, .int i1]) ++ List.replicate (5 - (lg_sl ([.ref o, .int i0, .long v, .int i1])).length) Slot.unset).toArray = ls at hl ⊢
  have hl : lv_has ls 5 [(0, .ref o), (1, .int i0), (2, .long v), (4, .int i1)] := hl
  refine lv_aload_n hx hb dX1_keepResidue_0 rfl (lv_at hl 0 rfl) ?_
  refine lv_iload_n hx hb dX1_keepResidue_1 rfl (lv_at hl 1 rfl) ?_
  refine lv_lload_n hx hb dX1_keepResidue_2 rfl (lv_at hl 2 rfl) ?_
  refine lv_aload_n hx hb dX1_keepResidue_3 rfl (lv_at hl 0 rfl) ?_
  refine va_get (D := D) (ci := 3) (v := .ref q1) (C := RX1) (T := TX1) (N := 4) hx hb hts in_X1_keepResidue_X1 hown hK hP 0 rfl rfl 0 (by decide) (hts (.fieldLink RX1 9 "Nearestclock" "held" "[I") (List.mem_of_getElem? (i := 1) rfl)) (fun _ h9 => h9) rfl dX1_keepResidue_4 ?_
  refine lv_iload hx hb dX1_keepResidue_7 (lv_at hl 3 rfl) ?_
  refine va_iald hx hb hK hP 1 0 rfl rfl (by assumption) dX1_keepResidue_9 ?_
  refine vp_callSi (va_Run.run (va_runS (As := [.long v, .int (hf i1.toNatClampNeg)]) (rest := [.int i0, .ref o]) ⟨hx, hb, hml, hown, hts⟩ (c_X1_residueOf l v (hf i1.toNatClampNeg) (gH _ (n_ix gp1)) (by assumption) (by assumption)) (va_cwS 2 hts gX1_keepResidue_X1_residueOf rfl rfl rfl (by decide +kernel) ⟨Nat.le_of_ble_eq_true rfl, Nat.le_of_ble_eq_true rfl⟩) ⟨ny_blindT, fun U hU hW => ⟨rfl, trivial⟩⟩ rfl rfl hl.1 rfl (lv_room (Nat.le_of_ble_eq_true rfl)) dX1_keepResidue_10 ⟨Nat.le_of_ble_eq_true rfl, Nat.le_of_ble_eq_true rfl⟩)) (fun r_10 hw_10 => ?_)
  have hw_10 : r_10 = f_rs v (hf i1.toNatClampNeg) := hw_10
  subst hw_10
  refine lv_iconst (v := 0) hx hb dX1_keepResidue_13 (by decide) ?_
  refine ny_l (wc := [(o, .inr (3, [.ref q1, .ref q2, .ref q3, .ref q4])), (q1, .inl (cI, 12, .inl hf)), (q2, .inl (cZ, 12, .inl bf))]) (wr := []) hP hD hS hA [0, 1, 2] [] rfl rfl (by decide) (by decide) (va_runV (As := [.int i0, .int (f_rs v (hf i1.toNatClampNeg)), .int 0]) (rest := []) ⟨hx, hb, hml, hown, hts⟩ (c_X1_keep l D cI cZ o q1 q2 q3 q4 s.heap.size hf bf i0 (f_rs v (hf i1.toNatClampNeg)) 0 (by assumption) (ny_R_rs (gH _ (n_ix gp1)) g0) (Or.inl rfl)) (cwV 3 hts gX1_keepResidue_X1_keep rfl rfl rfl (by decide +kernel) ⟨Nat.le_of_ble_eq_true rfl, Nat.le_of_ble_eq_true rfl⟩) ⟨ny_blind, va_recv hK hP (ci := 3) (q0 := 0) rfl rfl, fun U hU hW => ⟨rfl, ny_preU hE hP hK hD hS hA [0, 1, 2] rfl (by decide) rfl [0, 1] rfl U hU hW⟩⟩ rfl rfl hl.1 rfl (lv_room (Nat.le_of_ble_eq_true rfl)) dX1_keepResidue_14 ⟨Nat.le_of_ble_eq_true rfl, Nat.le_of_ble_eq_true rfl⟩) (fun r_14 u H locs hw_14 hP hD hS => ?_)
  have hP : va_P D vwCl [(o, .inr (3, [.ref q1, .ref q2, .ref q3, .ref q4])), (q1, .inl (cI, 12, .inl (upd hf i0.toNatClampNeg (f_rs v (hf i1.toNatClampNeg))))), (q2, .inl (cZ, 12, .inl (upd bf i0.toNatClampNeg 0)))] H := hP
  have hD : va_D A [(o, .inr (3, [.ref q1, .ref q2, .ref q3, .ref q4])), (q1, .inl (cI, 12, .inl (upd hf i0.toNatClampNeg (f_rs v (hf i1.toNatClampNeg))))), (q2, .inl (cZ, 12, .inl (upd bf i0.toNatClampNeg 0)))] := hD
  have hw_14 : r_14 = f_bt (f_rs v (hf i1.toNatClampNeg)) 0 := hw_14
  subst hw_14
  have hP9 := hP.sub (ws' := [(o, .inr (3, [.ref q1, .ref q2, .ref q3, .ref q4])), (q1, .inl (cI, 12, .inl (upd hf i0.toNatClampNeg (f_rs v (hf i1.toNatClampNeg))))), (q2, .inl (cZ, 12, .inl (upd bf i0.toNatClampNeg 0)))]) [0, 1, 2] rfl
  have hD9 := hD.sub (ws' := [(o, .inr (3, [.ref q1, .ref q2, .ref q3, .ref q4])), (q1, .inl (cI, 12, .inl (upd hf i0.toNatClampNeg (f_rs v (hf i1.toNatClampNeg))))), (q2, .inl (cZ, 12, .inl (upd bf i0.toNatClampNeg 0)))]) [0, 1, 2] (by decide) rfl
  exact W.lret (v := f_bt (f_rs v (hf i1.toNatClampNeg)) 0) hx hb hr (fun t ht hW => ⟨⟨f_bt (f_rs v (hf i1.toNatClampNeg)) 0, (), rfl, (rfl), by rw [ht]; exact hP9, va_K.moved hW.alike hK, hD9⟩, hS.F ht⟩) hS.2.2 dX1_keepResidue_17

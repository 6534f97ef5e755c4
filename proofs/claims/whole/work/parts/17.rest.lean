/-! THE CLASS, by contract: promises 20 to 30. -/
theorem n_in7 {i c : Int32} (h : 0 ≤ i.toInt) (h2 : i < c) (h7 : c.toInt ≤ 7) : vp_in i 7 := by
  rw [fa_lt] at h2
  exact vp_in_iff.mpr ⟨h, by omega⟩
theorem n_R_iv {x y : Int32} (h : ¬ f_iv x y = 128) : ny_R (f_iv x y) := by
  have h1 := n_ivR (x := x.toInt) (y := y.toInt) 255 (Nat.le_refl _)
  have h2 := f_iv_i x y
  have z : (128 : Int32).toInt = 128 := rfl
  rw [fa_eq, z] at h
  unfold ny_R
  omega
theorem in_X1_needDigits_X0 : ∀ w ∈ wsX00, w ∈ wsX1_needDigits := (fun _ h => List.mem_cons_of_mem _ (List.mem_append_left _ (List.mem_append_right _ h)))
theorem in_X1_needDigits_X1 : ∀ w ∈ wsX10, w ∈ wsX1_needDigits := (fun _ h => List.mem_cons_of_mem _ (List.mem_append_left _ (List.mem_append_left _ (List.mem_append_right _ h))))
set_option maxHeartbeats 4000000 in
set_option maxRecDepth 100000 in
theorem c_X1_needDigits (l : Launch) (D : va_G) (o : Nat) (q1 : Nat) (q2 : Nat) (q3 : Nat) (q4 : Nat) (q5 : Nat) (sz : Nat) (tc : Int32) (tl : Int32) (te : Int32) (i0 : Int32) (gi0 : 0 ≤ i0.toInt) (gi1 : i0 ≤ tc) : Met l yX1_needDigits wsX1_needDigits ({ frames := 0, cells := 0, slots := 0, locals := 0 }) (va_Pc [.ref o, .int i0] (ny_pre D [] [(o, .inr (3, [.ref q1, .ref q2, .ref q3, .ref q4])), (q3, .inr (2, [.ref q5, .int tc, .int tl, .int te]))] sz)) (va_Sv (fun _ => True)) 0 0 (fun _ => False) := by
  refine Met.ofW (cc := cX1_needDigits) (maxL := 2) (ret := none) (by decide) rfl ?_
  intro p e s m args below meth c s₁ B hml hv
  obtain ⟨rfl, hsz, hP, hK, hD0, hE⟩ := hv
  have hx := B.exec
  have hb := B.bytes
  have hr := B.returns
  have hts := atoms_spec (ws := wsX1_needDigits) B.pre
  have hown : s.vm.findClass RX1 = some m.cls := findClass_of_methodNamed B.named
  have hlocks := B.notSynchronized
  subst hsz
  have hD := hD0.self (sz := s.heap.size)
  generalize hAe : va_A [(o, .inr (3, [.ref q1, .ref q2, .ref q3, .ref q4])), (q3, .inr (2, [.ref q5, .int tc, .int tl, .int te]))] s.heap.size = A at hD hE
  have hA : ∀ q : Nat, s.heap.size ≤ q → A q := fun q h => by rw [← hAe]; exact Or.inr h
  have hS : va_S A s.heap s.heap [] := va_S.rf
  have hl := lv_entry ([.ref o, .int i0]) (n := 2) (Nat.le_of_ble_eq_true rfl)
  rw [lg_entry_eq]
  generalize (lg_sl ([.ref o, .int i0]) ++ List.replicate (2 - (lg_sl ([.ref o, .int i0])).length) Slot.unset).toArray = ls at hl ⊢
  have hl : lv_has ls 2 [(0, .ref o), (1, .int i0)] := hl
  refine lv_iload_n hx hb dX1_needDigits_0 rfl (lv_at hl 1 rfl) ?_
  refine lv_if_lt (tgt := 15) hx hb dX1_needDigits_1 (by decide) (fun c_1 => absurd c_1 (show ¬ ((i0 : Int32) < 0) by  rw [fa_lt, ny_z0]; omega)) (fun c_1 => ?_)
  refine lv_iload_n hx hb dX1_needDigits_4 rfl (lv_at hl 1 rfl) ?_
  refine lv_aload_n hx hb dX1_needDigits_5 rfl (lv_at hl 0 rfl) ?_
  refine va_get (D := D) (ci := 3) (v := .ref q3) (C := RX1) (T := TX1) (N := 4) hx hb hts in_X1_needDigits_X1 hown hK hP 0 rfl rfl 2 (by decide) (hts (.fieldLink RX1 20 "Nearestclock" "told" "LNearestclock$Euclid;") (List.mem_of_getElem? (i := 3) rfl)) (fun _ h9 => h9) rfl dX1_needDigits_6 ?_
  refine va_getN (D := D) (ci := 2) (v := .int tc) (C := RX0) (T := TX0) (N := 4) hx hb hts in_X1_needDigits_X0 hown hK hP 1 rfl rfl 1 (by decide) (va_Nw.use rfl (hE.2.2.1 (109, "count", "I") (List.mem_of_getElem? (i := 0) rfl))) (fun _ h9 => h9) rfl dX1_needDigits_9 ?_
  refine lv_icmp_le (tgt := 25) hx hb dX1_needDigits_12 (by decide) (fun c_12 => ?_) (fun c_12 => absurd (show (i0 : Int32) ≤ tc from gi1) c_12)
  exact W.vret hx hb hr (fun t ht hW => ⟨rfl, (trivial), ht⟩) (fun q hq => absurd hq List.not_mem_nil) dX1_needDigits_25
set_option maxHeartbeats 4000000 in
set_option maxRecDepth 100000 in
theorem c_X1_needDigits_noP (l : Launch) (D : va_G) (o : Nat) (q1 : Nat) (q2 : Nat) (q3 : Nat) (q4 : Nat) (q5 : Nat) (sz : Nat) (tc : Int32) (tl : Int32) (te : Int32) (i0 : Int32) (gl : l.stackTraces = false) (gi : ¬ (0 ≤ i0.toInt ∧ i0 ≤ tc)) : vx_Met l yX1_needDigits wsX1_needDigits ({ frames := 6, cells := 1, slots := 6, locals := 90 }) (va_Pc [.ref o, .int i0] (ny_pre D [] [(o, .inr (3, [.ref q1, .ref q2, .ref q3, .ref q4])), (q3, .inr (2, [.ref q5, .int tc, .int tl, .int te]))] sz)) (fun _ _ _ _ => False) (vx_X (fun _ : Unit => True) (fun E' _ _ => E' = ny_IO) (fun _ => False)) 1 6 (va_A [(o, .inr (3, [.ref q1, .ref q2, .ref q3, .ref q4])), (q3, .inr (2, [.ref q5, .int tc, .int tl, .int te]))] sz) := by
  refine vx_ofW (cc := cX1_needDigits) (maxL := 2) (ret := none) (by decide) rfl ?_
  intro p e s m args below meth c s₁ B hml ht hv
  obtain ⟨rfl, hsz, hP, hK, hD0, hE⟩ := hv
  have hx := B.exec
  have hb := B.bytes
  have hr := B.returns
  have hts := atoms_spec (ws := wsX1_needDigits) B.pre
  have hown : s.vm.findClass RX1 = some m.cls := findClass_of_methodNamed B.named
  have hlocks := B.notSynchronized
  subst hsz
  have hD := hD0.self (sz := s.heap.size)
  generalize hAe : va_A [(o, .inr (3, [.ref q1, .ref q2, .ref q3, .ref q4])), (q3, .inr (2, [.ref q5, .int tc, .int tl, .int te]))] s.heap.size = A at hD hE ⊢
  have hA : ∀ q : Nat, s.heap.size ≤ q → A q := fun q h => by rw [← hAe]; exact Or.inr h
  have hS : va_S A s.heap s.heap [] := va_S.rf
  have hl := lv_entry ([.ref o, .int i0]) (n := 2) (Nat.le_of_ble_eq_true rfl)
  rw [lg_entry_eq]
  generalize (lg_sl ([.ref o, .int i0]) ++ List.replicate (2 - (lg_sl ([.ref o, .int i0])).length) Slot.unset).toArray = ls at hl ⊢
  have hl : lv_has ls 2 [(0, .ref o), (1, .int i0)] := hl
  refine lv_iload_n hx hb dX1_needDigits_0 rfl (lv_at hl 1 rfl) ?_
  refine lv_if_lt (tgt := 15) hx hb dX1_needDigits_1 (by decide) (fun c_1 => ?_) (fun c_1 => ?_)
  · exact ny_throw (cls := ny_IO) hx hb gl hown (by decide) (hts (.classLink RX1 113 "java/lang/IndexOutOfBoundsException") (List.mem_of_getElem? (i := 1) rfl)) (hts (.initialized "java/lang/IndexOutOfBoundsException") (List.mem_of_getElem? (i := 2) rfl)) hE (List.mem_of_getElem? (i := 6) rfl) (List.mem_of_getElem? (i := 0) rfl) (fun w h => hts w ((fun _ h => List.mem_cons_of_mem _ (List.mem_append_right _ h)) w h)) ny_b117 ny_h117 hS (hl.1.trans hml.symm) dX1_needDigits_15 dX1_needDigits_18 dX1_needDigits_19 dX1_needDigits_21 dX1_needDigits_24 ht (Nat.le_of_ble_eq_true rfl) (Nat.le_of_ble_eq_true rfl) (Nat.le_of_ble_eq_true rfl) (Nat.le_of_ble_eq_true rfl) hlocks (Nat.le_of_ble_eq_true rfl) (Nat.le_of_ble_eq_true rfl)
  · refine lv_iload_n hx hb dX1_needDigits_4 rfl (lv_at hl 1 rfl) ?_
    refine lv_aload_n hx hb dX1_needDigits_5 rfl (lv_at hl 0 rfl) ?_
    refine va_get (D := D) (ci := 3) (v := .ref q3) (C := RX1) (T := TX1) (N := 4) hx hb hts in_X1_needDigits_X1 hown hK hP 0 rfl rfl 2 (by decide) (hts (.fieldLink RX1 20 "Nearestclock" "told" "LNearestclock$Euclid;") (List.mem_of_getElem? (i := 3) rfl)) (fun _ h9 => h9) rfl dX1_needDigits_6 ?_
    refine va_getN (D := D) (ci := 2) (v := .int tc) (C := RX0) (T := TX0) (N := 4) hx hb hts in_X1_needDigits_X0 hown hK hP 1 rfl rfl 1 (by decide) (va_Nw.use rfl (hE.2.2.1 (109, "count", "I") (List.mem_of_getElem? (i := 0) rfl))) (fun _ h9 => h9) rfl dX1_needDigits_9 ?_
    refine lv_icmp_le (tgt := 25) hx hb dX1_needDigits_12 (by decide) (fun c_12 => absurd c_12 (show ¬ ((i0 : Int32) ≤ tc) from fun q => gi ⟨by rw [fa_lt, ny_z0] at c_1; omega, q⟩)) (fun c_12 => ?_)
    exact ny_throw (cls := ny_IO) hx hb gl hown (by decide) (hts (.classLink RX1 113 "java/lang/IndexOutOfBoundsException") (List.mem_of_getElem? (i := 1) rfl)) (hts (.initialized "java/lang/IndexOutOfBoundsException") (List.mem_of_getElem? (i := 2) rfl)) hE (List.mem_of_getElem? (i := 6) rfl) (List.mem_of_getElem? (i := 0) rfl) (fun w h => hts w ((fun _ h => List.mem_cons_of_mem _ (List.mem_append_right _ h)) w h)) ny_b117 ny_h117 hS (hl.1.trans hml.symm) dX1_needDigits_15 dX1_needDigits_18 dX1_needDigits_19 dX1_needDigits_21 dX1_needDigits_24 ht (Nat.le_of_ble_eq_true rfl) (Nat.le_of_ble_eq_true rfl) (Nat.le_of_ble_eq_true rfl) (Nat.le_of_ble_eq_true rfl) hlocks (Nat.le_of_ble_eq_true rfl) (Nat.le_of_ble_eq_true rfl)
theorem in_X1_steps_X0 : ∀ w ∈ wsX00, w ∈ wsX1_steps := (fun _ h => List.mem_cons_of_mem _ (List.mem_append_left _ (List.mem_append_left _ (List.mem_append_left _ (List.mem_append_right _ h)))))
theorem in_X1_steps_X1 : ∀ w ∈ wsX10, w ∈ wsX1_steps := (fun _ h => List.mem_cons_of_mem _ (List.mem_append_left _ (List.mem_append_left _ (List.mem_append_left _ (List.mem_append_left _ (List.mem_append_right _ h))))))
set_option maxHeartbeats 4000000 in
set_option maxRecDepth 100000 in
theorem c_X1_steps (l : Launch) (D : va_G) (cI : ClassId) (cZ : ClassId) (o : Nat) (q1 : Nat) (q2 : Nat) (q3 : Nat) (q4 : Nat) (sz : Nat) (hf : Nat → Int32) (bf : Nat → Int32) (q6 : Nat) (sr : Nat → Int32) (sc : Int32) (sl : Int32) (se : Int32) (i0 : Int32) (i1 : Int32) (gp0 : vp_in i0 12) (gp1 : vp_in i1 12) (gH : ny_H hf) : Met l yX1_steps wsX1_steps ({ frames := 3, cells := 0, slots := 0, locals := 73 }) (va_Pc [.ref o, .int i0, .int i1] (ny_pre D [(cI, .int), (cZ, .boolean)] [(o, .inr (3, [.ref q1, .ref q2, .ref q3, .ref q4])), (q1, .inl (cI, 12, .inl hf)), (q2, .inl (cZ, 12, .inl bf)), (q4, .inr (2, [.ref q6, .int sc, .int sl, .int se])), (q6, .inl (cI, 7, .inl sr))] sz)) (va_Qi (fun (r : Int32) (u : Unit) => r = nI (f_ln (hf i0.toNatClampNeg) (hf i1.toNatClampNeg))) (fun (u : Unit) t => ny_at D [(cI, .int), (cZ, .boolean)] (va_A [(o, .inr (3, [.ref q1, .ref q2, .ref q3, .ref q4])), (q1, .inl (cI, 12, .inl hf)), (q2, .inl (cZ, 12, .inl bf)), (q4, .inr (2, [.ref q6, .int sc, .int sl, .int se])), (q6, .inl (cI, 7, .inl sr))] sz) [(o, .inr (3, [.ref q1, .ref q2, .ref q3, .ref q4])), (q1, .inl (cI, 12, .inl hf)), (q2, .inl (cZ, 12, .inl bf)), (q4, .inr (2, [.ref q6, .int (nI (f_ln (hf i0.toNatClampNeg) (hf i1.toNatClampNeg))), .int (f_la (hf i0.toNatClampNeg) (hf i1.toNatClampNeg)), .int 1])), (q6, .inl (cI, 7, .inl (f_row sr (hf i0.toNatClampNeg) (hf i1.toNatClampNeg) (f_ln (hf i0.toNatClampNeg) (hf i1.toNatClampNeg)))))] t) (va_A [(o, .inr (3, [.ref q1, .ref q2, .ref q3, .ref q4])), (q1, .inl (cI, 12, .inl hf)), (q2, .inl (cZ, 12, .inl bf)), (q4, .inr (2, [.ref q6, .int sc, .int sl, .int se])), (q6, .inl (cI, 7, .inl sr))] sz)) 0 0 (va_A [(o, .inr (3, [.ref q1, .ref q2, .ref q3, .ref q4])), (q1, .inl (cI, 12, .inl hf)), (q2, .inl (cZ, 12, .inl bf)), (q4, .inr (2, [.ref q6, .int sc, .int sl, .int se])), (q6, .inl (cI, 7, .inl sr))] sz) := by
  refine Met.ofW (cc := cX1_steps) (maxL := 3) (ret := (some .int)) (by decide) rfl ?_
  intro p e s m args below meth c s₁ B hml hv
  obtain ⟨rfl, hsz, hP, hK, hD0, hE⟩ := hv
  have hx := B.exec
  have hb := B.bytes
  have hr := B.returns
  have hts := atoms_spec (ws := wsX1_steps) B.pre
  have hown : s.vm.findClass RX1 = some m.cls := findClass_of_methodNamed B.named
  have hlocks := B.notSynchronized
  subst hsz
  have hD := hD0.self (sz := s.heap.size)
  generalize hAe : va_A [(o, .inr (3, [.ref q1, .ref q2, .ref q3, .ref q4])), (q1, .inl (cI, 12, .inl hf)), (q2, .inl (cZ, 12, .inl bf)), (q4, .inr (2, [.ref q6, .int sc, .int sl, .int se])), (q6, .inl (cI, 7, .inl sr))] s.heap.size = A at hD hE ⊢
  have hA : ∀ q : Nat, s.heap.size ≤ q → A q := fun q h => by rw [← hAe]; exact Or.inr h
  have hS : va_S A s.heap s.heap [] := va_S.rf
  have hl := lv_entry ([.ref o, .int i0, .int i1]) (n := 3) (Nat.le_of_ble_eq_true rfl)
  rw [lg_entry_eq]
  generalize (lg_sl ([.ref o, .int i0, .int i1]) ++ List.replicate (3 - (lg_sl ([.ref o, .int i0, .int i1])).length) Slot.unset).toArray = ls at hl ⊢
  have hl : lv_has ls 3 [(0, .ref o), (1, .int i0), (2, .int i1)] := hl
  refine lv_iload_n hx hb dX1_steps_0 rfl (lv_at hl 1 rfl) ?_
  refine va_csv (va_Run.run (va_runS (As := [.int i0]) (rest := []) ⟨hx, hb, hml, hown, hts⟩ (c_X1_needPlace l i0 (by assumption)) (va_cwS 1 hts gX1_steps_X1_needPlace rfl rfl rfl (by decide +kernel) ⟨Nat.le_of_ble_eq_true rfl, Nat.le_of_ble_eq_true rfl⟩) ⟨ny_blindT, fun U hU hW => ⟨rfl, trivial⟩⟩ rfl rfl hl.1 rfl (lv_room (Nat.le_of_ble_eq_true rfl)) dX1_steps_1 ⟨Nat.le_of_ble_eq_true rfl, Nat.le_of_ble_eq_true rfl⟩)) (fun hw => ?_)
  refine lv_iload_n hx hb dX1_steps_4 rfl (lv_at hl 2 rfl) ?_
  refine va_csv (va_Run.run (va_runS (As := [.int i1]) (rest := []) ⟨hx, hb, hml, hown, hts⟩ (c_X1_needPlace l i1 (by assumption)) (va_cwS 1 hts gX1_steps_X1_needPlace rfl rfl rfl (by decide +kernel) ⟨Nat.le_of_ble_eq_true rfl, Nat.le_of_ble_eq_true rfl⟩) ⟨ny_blindT, fun U hU hW => ⟨rfl, trivial⟩⟩ rfl rfl hl.1 rfl (lv_room (Nat.le_of_ble_eq_true rfl)) dX1_steps_5 ⟨Nat.le_of_ble_eq_true rfl, Nat.le_of_ble_eq_true rfl⟩)) (fun hw => ?_)
  refine lv_aload_n hx hb dX1_steps_8 rfl (lv_at hl 0 rfl) ?_
  refine va_get (D := D) (ci := 3) (v := .ref q4) (C := RX1) (T := TX1) (N := 4) hx hb hts in_X1_steps_X1 hown hK hP 0 rfl rfl 3 (by decide) (hts (.fieldLink RX1 24 "Nearestclock" "spare" "LNearestclock$Euclid;") (List.mem_of_getElem? (i := 1) rfl)) (fun _ h9 => h9) rfl dX1_steps_9 ?_
  refine lv_aload_n hx hb dX1_steps_12 rfl (lv_at hl 0 rfl) ?_
  refine va_get (D := D) (ci := 3) (v := .ref q1) (C := RX1) (T := TX1) (N := 4) hx hb hts in_X1_steps_X1 hown hK hP 0 rfl rfl 0 (by decide) (hts (.fieldLink RX1 9 "Nearestclock" "held" "[I") (List.mem_of_getElem? (i := 2) rfl)) (fun _ h9 => h9) rfl dX1_steps_13 ?_
  refine lv_iload_n hx hb dX1_steps_16 rfl (lv_at hl 1 rfl) ?_
  refine va_iald hx hb hK hP 1 0 rfl rfl (by assumption) dX1_steps_17 ?_
  refine lv_aload_n hx hb dX1_steps_18 rfl (lv_at hl 0 rfl) ?_
  refine va_get (D := D) (ci := 3) (v := .ref q1) (C := RX1) (T := TX1) (N := 4) hx hb hts in_X1_steps_X1 hown hK hP 0 rfl rfl 0 (by decide) (hts (.fieldLink RX1 9 "Nearestclock" "held" "[I") (List.mem_of_getElem? (i := 2) rfl)) (fun _ h9 => h9) rfl dX1_steps_19 ?_
  refine lv_iload_n hx hb dX1_steps_22 rfl (lv_at hl 2 rfl) ?_
  refine va_iald hx hb hK hP 1 0 rfl rfl (by assumption) dX1_steps_23 ?_
  refine ny_v (wc := [(q4, .inr (2, [.ref q6, .int sc, .int sl, .int se])), (q6, .inl (cI, 7, .inl sr))]) (wr := [(o, .inr (3, [.ref q1, .ref q2, .ref q3, .ref q4])), (q1, .inl (cI, 12, .inl hf)), (q2, .inl (cZ, 12, .inl bf))]) hP hD hS hA [3, 4] [0, 1, 2] rfl rfl (by decide) (by decide) (va_runVN (As := [.int (hf i0.toNatClampNeg), .int (hf i1.toNatClampNeg)]) (rest := []) ⟨hx, hb, hml, hown, hts⟩ (c_X0_takeRests l D cI q4 q6 s.heap.size sr sc sl se (hf i0.toNatClampNeg) (hf i1.toNatClampNeg) (gH _ (n_ix gp0)) (gH _ (n_ix gp1))) ⟨va_cnB 2 hts gX1_steps_X0_takeRests_n106 rfl rfl rfl (hE.2.2.2.1 (RX1, 106, yX0_takeRests) (List.mem_of_getElem? (i := 0) rfl)) (hts (.initialized RX0) (List.mem_of_getElem? (i := 10) rfl)) (by decide +kernel) ⟨Nat.le_of_ble_eq_true rfl, Nat.le_of_ble_eq_true rfl⟩, (hts (.instanceMethod yX0_takeRests) (List.mem_of_getElem? (i := 9) rfl)), (hts (.selects RX0 yX0_takeRests yX0_takeRests) (List.mem_of_getElem? (i := 11) rfl))⟩ ⟨ny_blind, va_recv hK hP (ci := 2) (q0 := 3) rfl rfl, fun U hU hW => ⟨rfl, ny_preU hE hP hK hD hS hA [3, 4] rfl (by decide) rfl [0] rfl U hU hW⟩⟩ rfl rfl hl.1 rfl (lv_room (Nat.le_of_ble_eq_true rfl)) dX1_steps_24 ⟨Nat.le_of_ble_eq_true rfl, Nat.le_of_ble_eq_true rfl⟩) (fun u H locs hw_24 hP hD hS => ?_)
  have hP : va_P D vwCl [(o, .inr (3, [.ref q1, .ref q2, .ref q3, .ref q4])), (q1, .inl (cI, 12, .inl hf)), (q2, .inl (cZ, 12, .inl bf)), (q4, .inr (2, [.ref q6, .int (nI (f_ln (hf i0.toNatClampNeg) (hf i1.toNatClampNeg))), .int (f_la (hf i0.toNatClampNeg) (hf i1.toNatClampNeg)), .int 1])), (q6, .inl (cI, 7, .inl (f_row sr (hf i0.toNatClampNeg) (hf i1.toNatClampNeg) (f_ln (hf i0.toNatClampNeg) (hf i1.toNatClampNeg)))))] H := hP
  have hD : va_D A [(o, .inr (3, [.ref q1, .ref q2, .ref q3, .ref q4])), (q1, .inl (cI, 12, .inl hf)), (q2, .inl (cZ, 12, .inl bf)), (q4, .inr (2, [.ref q6, .int (nI (f_ln (hf i0.toNatClampNeg) (hf i1.toNatClampNeg))), .int (f_la (hf i0.toNatClampNeg) (hf i1.toNatClampNeg)), .int 1])), (q6, .inl (cI, 7, .inl (f_row sr (hf i0.toNatClampNeg) (hf i1.toNatClampNeg) (f_ln (hf i0.toNatClampNeg) (hf i1.toNatClampNeg)))))] := hD
  refine lv_aload_n hx hb dX1_steps_27 rfl (lv_at hl 0 rfl) ?_
  refine va_get (D := D) (ci := 3) (v := .ref q4) (C := RX1) (T := TX1) (N := 4) hx hb hts in_X1_steps_X1 hown hK hP 0 rfl rfl 3 (by decide) (hts (.fieldLink RX1 24 "Nearestclock" "spare" "LNearestclock$Euclid;") (List.mem_of_getElem? (i := 1) rfl)) (fun _ h9 => h9) rfl dX1_steps_28 ?_
  refine va_getN (D := D) (ci := 2) (v := .int (nI (f_ln (hf i0.toNatClampNeg) (hf i1.toNatClampNeg)))) (C := RX0) (T := TX0) (N := 4) hx hb hts in_X1_steps_X0 hown hK hP 3 rfl rfl 1 (by decide) (va_Nw.use rfl (hE.2.2.1 (109, "count", "I") (List.mem_of_getElem? (i := 0) rfl))) (fun _ h9 => h9) rfl dX1_steps_31 ?_
  have hP9 := hP.sub (ws' := [(o, .inr (3, [.ref q1, .ref q2, .ref q3, .ref q4])), (q1, .inl (cI, 12, .inl hf)), (q2, .inl (cZ, 12, .inl bf)), (q4, .inr (2, [.ref q6, .int (nI (f_ln (hf i0.toNatClampNeg) (hf i1.toNatClampNeg))), .int (f_la (hf i0.toNatClampNeg) (hf i1.toNatClampNeg)), .int 1])), (q6, .inl (cI, 7, .inl (f_row sr (hf i0.toNatClampNeg) (hf i1.toNatClampNeg) (f_ln (hf i0.toNatClampNeg) (hf i1.toNatClampNeg)))))]) [0, 1, 2, 3, 4] rfl
  have hD9 := hD.sub (ws' := [(o, .inr (3, [.ref q1, .ref q2, .ref q3, .ref q4])), (q1, .inl (cI, 12, .inl hf)), (q2, .inl (cZ, 12, .inl bf)), (q4, .inr (2, [.ref q6, .int (nI (f_ln (hf i0.toNatClampNeg) (hf i1.toNatClampNeg))), .int (f_la (hf i0.toNatClampNeg) (hf i1.toNatClampNeg)), .int 1])), (q6, .inl (cI, 7, .inl (f_row sr (hf i0.toNatClampNeg) (hf i1.toNatClampNeg) (f_ln (hf i0.toNatClampNeg) (hf i1.toNatClampNeg)))))]) [0, 1, 2, 3, 4] (by decide) rfl
  exact W.iret (v := nI (f_ln (hf i0.toNatClampNeg) (hf i1.toNatClampNeg))) hx hb hr (fun t ht hW => ⟨⟨nI (f_ln (hf i0.toNatClampNeg) (hf i1.toNatClampNeg)), (), rfl, (rfl), by rw [ht]; exact hP9, va_K.moved hW.alike hK, hD9⟩, hS.F ht⟩) hS.2.2 dX1_steps_34
set_option maxHeartbeats 4000000 in
set_option maxRecDepth 100000 in
theorem c_X1_steps_noP (l : Launch) (D : va_G) (cI : ClassId) (cZ : ClassId) (o : Nat) (q1 : Nat) (q2 : Nat) (q3 : Nat) (q4 : Nat) (sz : Nat) (hf : Nat → Int32) (bf : Nat → Int32) (i0 : Int32) (i1 : Int32) (gl : l.stackTraces = false) (gb : ¬ vp_in i0 12 ∨ ¬ vp_in i1 12) : vx_Met l yX1_steps wsX1_steps ({ frames := 7, cells := 1, slots := 6, locals := 110 }) (va_Pc [.ref o, .int i0, .int i1] (ny_pre D [(cI, .int), (cZ, .boolean)] [(o, .inr (3, [.ref q1, .ref q2, .ref q3, .ref q4])), (q1, .inl (cI, 12, .inl hf)), (q2, .inl (cZ, 12, .inl bf))] sz)) (fun _ _ _ _ => False) (vx_X (fun _ : Unit => True) (fun E' _ _ => E' = ny_IO) (fun _ => False)) 1 6 (va_A [(o, .inr (3, [.ref q1, .ref q2, .ref q3, .ref q4])), (q1, .inl (cI, 12, .inl hf)), (q2, .inl (cZ, 12, .inl bf))] sz) := by
  refine vx_ofW (cc := cX1_steps) (maxL := 3) (ret := (some .int)) (by decide) rfl ?_
  intro p e s m args below meth c s₁ B hml ht hv
  obtain ⟨rfl, hsz, hP, hK, hD0, hE⟩ := hv
  have hx := B.exec
  have hb := B.bytes
  have hr := B.returns
  have hts := atoms_spec (ws := wsX1_steps) B.pre
  have hown : s.vm.findClass RX1 = some m.cls := findClass_of_methodNamed B.named
  have hlocks := B.notSynchronized
  subst hsz
  have hD := hD0.self (sz := s.heap.size)
  generalize hAe : va_A [(o, .inr (3, [.ref q1, .ref q2, .ref q3, .ref q4])), (q1, .inl (cI, 12, .inl hf)), (q2, .inl (cZ, 12, .inl bf))] s.heap.size = A at hD hE ⊢
  have hA : ∀ q : Nat, s.heap.size ≤ q → A q := fun q h => by rw [← hAe]; exact Or.inr h
  have hS : va_S A s.heap s.heap [] := va_S.rf
  have hl := lv_entry ([.ref o, .int i0, .int i1]) (n := 3) (Nat.le_of_ble_eq_true rfl)
  rw [lg_entry_eq]
  generalize (lg_sl ([.ref o, .int i0, .int i1]) ++ List.replicate (3 - (lg_sl ([.ref o, .int i0, .int i1])).length) Slot.unset).toArray = ls at hl ⊢
  have hl : lv_has ls 3 [(0, .ref o), (1, .int i0), (2, .int i1)] := hl
  refine lv_iload_n hx hb dX1_steps_0 rfl (lv_at hl 1 rfl) ?_
  by_cases q_1 : vp_in i0 12
  · have gb := gb.resolve_left (fun h => h q_1)
    refine va_csv (va_Run.run (va_runS (As := [.int i0]) (rest := []) ⟨hx, hb, hml, hown, hts⟩ (c_X1_needPlace l i0 (by assumption)) (va_cwS 1 hts gX1_steps_X1_needPlace rfl rfl rfl (by decide +kernel) ⟨Nat.le_of_ble_eq_true rfl, Nat.le_of_ble_eq_true rfl⟩) ⟨ny_blindT, fun U hU hW => ⟨rfl, trivial⟩⟩ rfl rfl hl.1 rfl (lv_room (Nat.le_of_ble_eq_true rfl)) dX1_steps_1 ⟨Nat.le_of_ble_eq_true rfl, Nat.le_of_ble_eq_true rfl⟩)) (fun hw => ?_)
    refine lv_iload_n hx hb dX1_steps_4 rfl (lv_at hl 2 rfl) ?_
    exact ny_th hS (va_free (wc := []) hD hS hA [] rfl) ht hlocks (Nat.le_of_ble_eq_true rfl) (Nat.le_of_ble_eq_true rfl) (vx_runS (As := [.int i1]) (rest := []) ⟨hx, hb, hml, hown, hts⟩ (c_X1_needPlace_no l D s.heap.size i1 (by assumption) (by assumption)) (va_cwS 1 hts gX1_steps_X1_needPlace rfl rfl rfl (by decide +kernel) ⟨Nat.le_of_ble_eq_true rfl, Nat.le_of_ble_eq_true rfl⟩) ⟨ny_blind, fun U hU hW => ⟨rfl, ny_preU hE hP hK hD hS hA [] rfl (by decide) rfl [] rfl U hU hW⟩⟩ rfl rfl hl.1 rfl (lv_room (Nat.le_of_ble_eq_true rfl)) dX1_steps_5 ⟨Nat.le_of_ble_eq_true rfl, Nat.le_of_ble_eq_true rfl⟩)
  · exact ny_th hS (va_free (wc := []) hD hS hA [] rfl) ht hlocks (Nat.le_of_ble_eq_true rfl) (Nat.le_of_ble_eq_true rfl) (vx_runS (As := [.int i0]) (rest := []) ⟨hx, hb, hml, hown, hts⟩ (c_X1_needPlace_no l D s.heap.size i0 (by assumption) (by assumption)) (va_cwS 1 hts gX1_steps_X1_needPlace rfl rfl rfl (by decide +kernel) ⟨Nat.le_of_ble_eq_true rfl, Nat.le_of_ble_eq_true rfl⟩) ⟨ny_blind, fun U hU hW => ⟨rfl, ny_preU hE hP hK hD hS hA [] rfl (by decide) rfl [] rfl U hU hW⟩⟩ rfl rfl hl.1 rfl (lv_room (Nat.le_of_ble_eq_true rfl)) dX1_steps_1 ⟨Nat.le_of_ble_eq_true rfl, Nat.le_of_ble_eq_true rfl⟩)
theorem in_X1_digits_X0 : ∀ w ∈ wsX00, w ∈ wsX1_digits := (fun _ h => List.mem_cons_of_mem _ (List.mem_append_left _ (List.mem_append_left _ (List.mem_append_left _ (List.mem_append_left _ (List.mem_append_right _ h))))))
theorem in_X1_digits_X1 : ∀ w ∈ wsX10, w ∈ wsX1_digits := (fun _ h => List.mem_cons_of_mem _ (List.mem_append_left _ (List.mem_append_left _ (List.mem_append_left _ (List.mem_append_left _ (List.mem_append_left _ (List.mem_append_right _ h)))))))
set_option maxHeartbeats 4000000 in
set_option maxRecDepth 100000 in
theorem c_X1_digits (l : Launch) (D : va_G) (cI : ClassId) (cZ : ClassId) (o : Nat) (q1 : Nat) (q2 : Nat) (q3 : Nat) (q4 : Nat) (sz : Nat) (hf : Nat → Int32) (bf : Nat → Int32) (q5 : Nat) (tr : Nat → Int32) (tc : Int32) (tl : Int32) (te : Int32) (i0 : Int32) (i1 : Int32) (gp0 : vp_in i0 12) (gp1 : vp_in i1 12) (g0 : ¬ hf i1.toNatClampNeg = 0) (gH : ny_H hf) : Met l yX1_digits wsX1_digits ({ frames := 3, cells := 0, slots := 0, locals := 73 }) (va_Pc [.ref o, .int i0, .int i1] (ny_pre D [(cI, .int), (cZ, .boolean)] [(o, .inr (3, [.ref q1, .ref q2, .ref q3, .ref q4])), (q1, .inl (cI, 12, .inl hf)), (q2, .inl (cZ, 12, .inl bf)), (q3, .inr (2, [.ref q5, .int tc, .int tl, .int te])), (q5, .inl (cI, 7, .inl tr))] sz)) (va_Qi (fun (r : Int32) (u : Unit) => r = nI (f_ln (hf i0.toNatClampNeg) (hf i1.toNatClampNeg))) (fun (u : Unit) t => ny_at D [(cI, .int), (cZ, .boolean)] (va_A [(o, .inr (3, [.ref q1, .ref q2, .ref q3, .ref q4])), (q1, .inl (cI, 12, .inl hf)), (q2, .inl (cZ, 12, .inl bf)), (q3, .inr (2, [.ref q5, .int tc, .int tl, .int te])), (q5, .inl (cI, 7, .inl tr))] sz) [(o, .inr (3, [.ref q1, .ref q2, .ref q3, .ref q4])), (q1, .inl (cI, 12, .inl hf)), (q2, .inl (cZ, 12, .inl bf)), (q3, .inr (2, [.ref q5, .int (nI (f_ln (hf i0.toNatClampNeg) (hf i1.toNatClampNeg))), .int (f_la (hf i0.toNatClampNeg) (hf i1.toNatClampNeg)), .int 1])), (q5, .inl (cI, 7, .inl (f_row tr (hf i0.toNatClampNeg) (hf i1.toNatClampNeg) (f_ln (hf i0.toNatClampNeg) (hf i1.toNatClampNeg)))))] t) (va_A [(o, .inr (3, [.ref q1, .ref q2, .ref q3, .ref q4])), (q1, .inl (cI, 12, .inl hf)), (q2, .inl (cZ, 12, .inl bf)), (q3, .inr (2, [.ref q5, .int tc, .int tl, .int te])), (q5, .inl (cI, 7, .inl tr))] sz)) 0 0 (va_A [(o, .inr (3, [.ref q1, .ref q2, .ref q3, .ref q4])), (q1, .inl (cI, 12, .inl hf)), (q2, .inl (cZ, 12, .inl bf)), (q3, .inr (2, [.ref q5, .int tc, .int tl, .int te])), (q5, .inl (cI, 7, .inl tr))] sz) := by
  refine Met.ofW (cc := cX1_digits) (maxL := 3) (ret := (some .int)) (by decide) rfl ?_
  intro p e s m args below meth c s₁ B hml hv
  obtain ⟨rfl, hsz, hP, hK, hD0, hE⟩ := hv
  have hx := B.exec
  have hb := B.bytes
  have hr := B.returns
  have hts := atoms_spec (ws := wsX1_digits) B.pre
  have hown : s.vm.findClass RX1 = some m.cls := findClass_of_methodNamed B.named
  have hlocks := B.notSynchronized
  subst hsz
  have hD := hD0.self (sz := s.heap.size)
  generalize hAe : va_A [(o, .inr (3, [.ref q1, .ref q2, .ref q3, .ref q4])), (q1, .inl (cI, 12, .inl hf)), (q2, .inl (cZ, 12, .inl bf)), (q3, .inr (2, [.ref q5, .int tc, .int tl, .int te])), (q5, .inl (cI, 7, .inl tr))] s.heap.size = A at hD hE ⊢
  have hA : ∀ q : Nat, s.heap.size ≤ q → A q := fun q h => by rw [← hAe]; exact Or.inr h
  have hS : va_S A s.heap s.heap [] := va_S.rf
  have hl := lv_entry ([.ref o, .int i0, .int i1]) (n := 3) (Nat.le_of_ble_eq_true rfl)
  rw [lg_entry_eq]
  generalize (lg_sl ([.ref o, .int i0, .int i1]) ++ List.replicate (3 - (lg_sl ([.ref o, .int i0, .int i1])).length) Slot.unset).toArray = ls at hl ⊢
  have hl : lv_has ls 3 [(0, .ref o), (1, .int i0), (2, .int i1)] := hl
  refine lv_aload_n hx hb dX1_digits_0 rfl (lv_at hl 0 rfl) ?_
  refine lv_iload_n hx hb dX1_digits_1 rfl (lv_at hl 1 rfl) ?_
  refine lv_iload_n hx hb dX1_digits_2 rfl (lv_at hl 2 rfl) ?_
  refine va_csv (va_Run.run (va_runV (As := [.int i0, .int i1]) (rest := []) ⟨hx, hb, hml, hown, hts⟩ (c_X1_needDivision l D cI cZ o q1 q2 q3 q4 s.heap.size hf bf i0 i1 (by assumption) (by assumption) (by assumption)) (cwV 2 hts gX1_digits_X1_needDivision rfl rfl rfl (by decide +kernel) ⟨Nat.le_of_ble_eq_true rfl, Nat.le_of_ble_eq_true rfl⟩) ⟨ny_blind, va_recv hK hP (ci := 3) (q0 := 0) rfl rfl, fun U hU hW => ⟨rfl, ny_preU hE hP hK hD hS hA [0, 1, 2] rfl (by decide) rfl [0, 1] rfl U hU hW⟩⟩ rfl rfl hl.1 rfl (lv_room (Nat.le_of_ble_eq_true rfl)) dX1_digits_3 ⟨Nat.le_of_ble_eq_true rfl, Nat.le_of_ble_eq_true rfl⟩)) (fun hw => ?_)
  refine lv_aload_n hx hb dX1_digits_6 rfl (lv_at hl 0 rfl) ?_
  refine va_get (D := D) (ci := 3) (v := .ref q3) (C := RX1) (T := TX1) (N := 4) hx hb hts in_X1_digits_X1 hown hK hP 0 rfl rfl 2 (by decide) (hts (.fieldLink RX1 20 "Nearestclock" "told" "LNearestclock$Euclid;") (List.mem_of_getElem? (i := 1) rfl)) (fun _ h9 => h9) rfl dX1_digits_7 ?_
  refine lv_aload_n hx hb dX1_digits_10 rfl (lv_at hl 0 rfl) ?_
  refine va_get (D := D) (ci := 3) (v := .ref q1) (C := RX1) (T := TX1) (N := 4) hx hb hts in_X1_digits_X1 hown hK hP 0 rfl rfl 0 (by decide) (hts (.fieldLink RX1 9 "Nearestclock" "held" "[I") (List.mem_of_getElem? (i := 2) rfl)) (fun _ h9 => h9) rfl dX1_digits_11 ?_
  refine lv_iload_n hx hb dX1_digits_14 rfl (lv_at hl 1 rfl) ?_
  refine va_iald hx hb hK hP 1 0 rfl rfl (by assumption) dX1_digits_15 ?_
  refine lv_aload_n hx hb dX1_digits_16 rfl (lv_at hl 0 rfl) ?_
  refine va_get (D := D) (ci := 3) (v := .ref q1) (C := RX1) (T := TX1) (N := 4) hx hb hts in_X1_digits_X1 hown hK hP 0 rfl rfl 0 (by decide) (hts (.fieldLink RX1 9 "Nearestclock" "held" "[I") (List.mem_of_getElem? (i := 2) rfl)) (fun _ h9 => h9) rfl dX1_digits_17 ?_
  refine lv_iload_n hx hb dX1_digits_20 rfl (lv_at hl 2 rfl) ?_
  refine va_iald hx hb hK hP 1 0 rfl rfl (by assumption) dX1_digits_21 ?_
  refine ny_v (wc := [(q3, .inr (2, [.ref q5, .int tc, .int tl, .int te])), (q5, .inl (cI, 7, .inl tr))]) (wr := [(o, .inr (3, [.ref q1, .ref q2, .ref q3, .ref q4])), (q1, .inl (cI, 12, .inl hf)), (q2, .inl (cZ, 12, .inl bf))]) hP hD hS hA [3, 4] [0, 1, 2] rfl rfl (by decide) (by decide) (va_runVN (As := [.int (hf i0.toNatClampNeg), .int (hf i1.toNatClampNeg)]) (rest := []) ⟨hx, hb, hml, hown, hts⟩ (c_X0_takeRests l D cI q3 q5 s.heap.size tr tc tl te (hf i0.toNatClampNeg) (hf i1.toNatClampNeg) (gH _ (n_ix gp0)) (gH _ (n_ix gp1))) ⟨va_cnB 2 hts gX1_digits_X0_takeRests_n106 rfl rfl rfl (hE.2.2.2.1 (RX1, 106, yX0_takeRests) (List.mem_of_getElem? (i := 0) rfl)) (hts (.initialized RX0) (List.mem_of_getElem? (i := 16) rfl)) (by decide +kernel) ⟨Nat.le_of_ble_eq_true rfl, Nat.le_of_ble_eq_true rfl⟩, (hts (.instanceMethod yX0_takeRests) (List.mem_of_getElem? (i := 15) rfl)), (hts (.selects RX0 yX0_takeRests yX0_takeRests) (List.mem_of_getElem? (i := 17) rfl))⟩ ⟨ny_blind, va_recv hK hP (ci := 2) (q0 := 3) rfl rfl, fun U hU hW => ⟨rfl, ny_preU hE hP hK hD hS hA [3, 4] rfl (by decide) rfl [0] rfl U hU hW⟩⟩ rfl rfl hl.1 rfl (lv_room (Nat.le_of_ble_eq_true rfl)) dX1_digits_22 ⟨Nat.le_of_ble_eq_true rfl, Nat.le_of_ble_eq_true rfl⟩) (fun u H locs hw_22 hP hD hS => ?_)
  have hP : va_P D vwCl [(o, .inr (3, [.ref q1, .ref q2, .ref q3, .ref q4])), (q1, .inl (cI, 12, .inl hf)), (q2, .inl (cZ, 12, .inl bf)), (q3, .inr (2, [.ref q5, .int (nI (f_ln (hf i0.toNatClampNeg) (hf i1.toNatClampNeg))), .int (f_la (hf i0.toNatClampNeg) (hf i1.toNatClampNeg)), .int 1])), (q5, .inl (cI, 7, .inl (f_row tr (hf i0.toNatClampNeg) (hf i1.toNatClampNeg) (f_ln (hf i0.toNatClampNeg) (hf i1.toNatClampNeg)))))] H := hP
  have hD : va_D A [(o, .inr (3, [.ref q1, .ref q2, .ref q3, .ref q4])), (q1, .inl (cI, 12, .inl hf)), (q2, .inl (cZ, 12, .inl bf)), (q3, .inr (2, [.ref q5, .int (nI (f_ln (hf i0.toNatClampNeg) (hf i1.toNatClampNeg))), .int (f_la (hf i0.toNatClampNeg) (hf i1.toNatClampNeg)), .int 1])), (q5, .inl (cI, 7, .inl (f_row tr (hf i0.toNatClampNeg) (hf i1.toNatClampNeg) (f_ln (hf i0.toNatClampNeg) (hf i1.toNatClampNeg)))))] := hD
  refine lv_aload_n hx hb dX1_digits_25 rfl (lv_at hl 0 rfl) ?_
  refine va_get (D := D) (ci := 3) (v := .ref q3) (C := RX1) (T := TX1) (N := 4) hx hb hts in_X1_digits_X1 hown hK hP 0 rfl rfl 2 (by decide) (hts (.fieldLink RX1 20 "Nearestclock" "told" "LNearestclock$Euclid;") (List.mem_of_getElem? (i := 1) rfl)) (fun _ h9 => h9) rfl dX1_digits_26 ?_
  refine va_getN (D := D) (ci := 2) (v := .int (nI (f_ln (hf i0.toNatClampNeg) (hf i1.toNatClampNeg)))) (C := RX0) (T := TX0) (N := 4) hx hb hts in_X1_digits_X0 hown hK hP 3 rfl rfl 1 (by decide) (va_Nw.use rfl (hE.2.2.1 (109, "count", "I") (List.mem_of_getElem? (i := 0) rfl))) (fun _ h9 => h9) rfl dX1_digits_29 ?_
  have hP9 := hP.sub (ws' := [(o, .inr (3, [.ref q1, .ref q2, .ref q3, .ref q4])), (q1, .inl (cI, 12, .inl hf)), (q2, .inl (cZ, 12, .inl bf)), (q3, .inr (2, [.ref q5, .int (nI (f_ln (hf i0.toNatClampNeg) (hf i1.toNatClampNeg))), .int (f_la (hf i0.toNatClampNeg) (hf i1.toNatClampNeg)), .int 1])), (q5, .inl (cI, 7, .inl (f_row tr (hf i0.toNatClampNeg) (hf i1.toNatClampNeg) (f_ln (hf i0.toNatClampNeg) (hf i1.toNatClampNeg)))))]) [0, 1, 2, 3, 4] rfl
  have hD9 := hD.sub (ws' := [(o, .inr (3, [.ref q1, .ref q2, .ref q3, .ref q4])), (q1, .inl (cI, 12, .inl hf)), (q2, .inl (cZ, 12, .inl bf)), (q3, .inr (2, [.ref q5, .int (nI (f_ln (hf i0.toNatClampNeg) (hf i1.toNatClampNeg))), .int (f_la (hf i0.toNatClampNeg) (hf i1.toNatClampNeg)), .int 1])), (q5, .inl (cI, 7, .inl (f_row tr (hf i0.toNatClampNeg) (hf i1.toNatClampNeg) (f_ln (hf i0.toNatClampNeg) (hf i1.toNatClampNeg)))))]) [0, 1, 2, 3, 4] (by decide) rfl
  exact W.iret (v := nI (f_ln (hf i0.toNatClampNeg) (hf i1.toNatClampNeg))) hx hb hr (fun t ht hW => ⟨⟨nI (f_ln (hf i0.toNatClampNeg) (hf i1.toNatClampNeg)), (), rfl, (rfl), by rw [ht]; exact hP9, va_K.moved hW.alike hK, hD9⟩, hS.F ht⟩) hS.2.2 dX1_digits_32
set_option maxHeartbeats 4000000 in
set_option maxRecDepth 100000 in
theorem c_X1_digits_noP (l : Launch) (D : va_G) (cI : ClassId) (cZ : ClassId) (o : Nat) (q1 : Nat) (q2 : Nat) (q3 : Nat) (q4 : Nat) (sz : Nat) (hf : Nat → Int32) (bf : Nat → Int32) (i0 : Int32) (i1 : Int32) (gl : l.stackTraces = false) (gb : ¬ vp_in i0 12 ∨ ¬ vp_in i1 12) : vx_Met l yX1_digits wsX1_digits ({ frames := 8, cells := 1, slots := 6, locals := 132 }) (va_Pc [.ref o, .int i0, .int i1] (ny_pre D [(cI, .int), (cZ, .boolean)] [(o, .inr (3, [.ref q1, .ref q2, .ref q3, .ref q4])), (q1, .inl (cI, 12, .inl hf)), (q2, .inl (cZ, 12, .inl bf))] sz)) (fun _ _ _ _ => False) (vx_X (fun _ : Unit => True) (fun E' _ _ => E' = ny_IO) (fun _ => False)) 1 6 (va_A [(o, .inr (3, [.ref q1, .ref q2, .ref q3, .ref q4])), (q1, .inl (cI, 12, .inl hf)), (q2, .inl (cZ, 12, .inl bf))] sz) := by
  refine vx_ofW (cc := cX1_digits) (maxL := 3) (ret := (some .int)) (by decide) rfl ?_
  intro p e s m args below meth c s₁ B hml ht hv
  obtain ⟨rfl, hsz, hP, hK, hD0, hE⟩ := hv
  have hx := B.exec
  have hb := B.bytes
  have hr := B.returns
  have hts := atoms_spec (ws := wsX1_digits) B.pre
  have hown : s.vm.findClass RX1 = some m.cls := findClass_of_methodNamed B.named
  have hlocks := B.notSynchronized
  subst hsz
  have hD := hD0.self (sz := s.heap.size)
  generalize hAe : va_A [(o, .inr (3, [.ref q1, .ref q2, .ref q3, .ref q4])), (q1, .inl (cI, 12, .inl hf)), (q2, .inl (cZ, 12, .inl bf))] s.heap.size = A at hD hE ⊢
  have hA : ∀ q : Nat, s.heap.size ≤ q → A q := fun q h => by rw [← hAe]; exact Or.inr h
  have hS : va_S A s.heap s.heap [] := va_S.rf
  have hl := lv_entry ([.ref o, .int i0, .int i1]) (n := 3) (Nat.le_of_ble_eq_true rfl)
  rw [lg_entry_eq]
  generalize (lg_sl ([.ref o, .int i0, .int i1]) ++ List.replicate (3 - (lg_sl ([.ref o, .int i0, .int i1])).length) Slot.unset).toArray = ls at hl ⊢
  have hl : lv_has ls 3 [(0, .ref o), (1, .int i0), (2, .int i1)] := hl
  refine lv_aload_n hx hb dX1_digits_0 rfl (lv_at hl 0 rfl) ?_
  refine lv_iload_n hx hb dX1_digits_1 rfl (lv_at hl 1 rfl) ?_
  refine lv_iload_n hx hb dX1_digits_2 rfl (lv_at hl 2 rfl) ?_
  exact ny_th hS (va_free (wc := [(o, .inr (3, [.ref q1, .ref q2, .ref q3, .ref q4])), (q1, .inl (cI, 12, .inl hf)), (q2, .inl (cZ, 12, .inl bf))]) hD hS hA [0, 1, 2] rfl) ht hlocks (Nat.le_of_ble_eq_true rfl) (Nat.le_of_ble_eq_true rfl) (vx_runV (As := [.int i0, .int i1]) (rest := []) ⟨hx, hb, hml, hown, hts⟩ (c_X1_needDivision_noP l D cI cZ o q1 q2 q3 q4 s.heap.size hf bf i0 i1 (by assumption) (by assumption)) (cwV 2 hts gX1_digits_X1_needDivision rfl rfl rfl (by decide +kernel) ⟨Nat.le_of_ble_eq_true rfl, Nat.le_of_ble_eq_true rfl⟩) ⟨ny_blind, va_recv hK hP (ci := 3) (q0 := 0) rfl rfl, fun U hU hW => ⟨rfl, ny_preU hE hP hK hD hS hA [0, 1, 2] rfl (by decide) rfl [0, 1] rfl U hU hW⟩⟩ rfl rfl hl.1 rfl (lv_room (Nat.le_of_ble_eq_true rfl)) dX1_digits_3 ⟨Nat.le_of_ble_eq_true rfl, Nat.le_of_ble_eq_true rfl⟩)
set_option maxHeartbeats 4000000 in
set_option maxRecDepth 100000 in
theorem c_X1_digits_no0 (l : Launch) (D : va_G) (cI : ClassId) (cZ : ClassId) (o : Nat) (q1 : Nat) (q2 : Nat) (q3 : Nat) (q4 : Nat) (sz : Nat) (hf : Nat → Int32) (bf : Nat → Int32) (i0 : Int32) (i1 : Int32) (gl : l.stackTraces = false) (gp0 : vp_in i0 12) (gp1 : vp_in i1 12) (g0 : hf i1.toNatClampNeg = 0) : vx_Met l yX1_digits wsX1_digits ({ frames := 7, cells := 1, slots := 6, locals := 112 }) (va_Pc [.ref o, .int i0, .int i1] (ny_pre D [(cI, .int), (cZ, .boolean)] [(o, .inr (3, [.ref q1, .ref q2, .ref q3, .ref q4])), (q1, .inl (cI, 12, .inl hf)), (q2, .inl (cZ, 12, .inl bf))] sz)) (fun _ _ _ _ => False) (vx_X (fun _ : Unit => True) (fun E' _ _ => E' = ny_AE) (fun _ => False)) 1 6 (va_A [(o, .inr (3, [.ref q1, .ref q2, .ref q3, .ref q4])), (q1, .inl (cI, 12, .inl hf)), (q2, .inl (cZ, 12, .inl bf))] sz) := by
  refine vx_ofW (cc := cX1_digits) (maxL := 3) (ret := (some .int)) (by decide) rfl ?_
  intro p e s m args below meth c s₁ B hml ht hv
  obtain ⟨rfl, hsz, hP, hK, hD0, hE⟩ := hv
  have hx := B.exec
  have hb := B.bytes
  have hr := B.returns
  have hts := atoms_spec (ws := wsX1_digits) B.pre
  have hown : s.vm.findClass RX1 = some m.cls := findClass_of_methodNamed B.named
  have hlocks := B.notSynchronized
  subst hsz
  have hD := hD0.self (sz := s.heap.size)
  generalize hAe : va_A [(o, .inr (3, [.ref q1, .ref q2, .ref q3, .ref q4])), (q1, .inl (cI, 12, .inl hf)), (q2, .inl (cZ, 12, .inl bf))] s.heap.size = A at hD hE ⊢
  have hA : ∀ q : Nat, s.heap.size ≤ q → A q := fun q h => by rw [← hAe]; exact Or.inr h
  have hS : va_S A s.heap s.heap [] := va_S.rf
  have hl := lv_entry ([.ref o, .int i0, .int i1]) (n := 3) (Nat.le_of_ble_eq_true rfl)
  rw [lg_entry_eq]
  generalize (lg_sl ([.ref o, .int i0, .int i1]) ++ List.replicate (3 - (lg_sl ([.ref o, .int i0, .int i1])).length) Slot.unset).toArray = ls at hl ⊢
  have hl : lv_has ls 3 [(0, .ref o), (1, .int i0), (2, .int i1)] := hl
  refine lv_aload_n hx hb dX1_digits_0 rfl (lv_at hl 0 rfl) ?_
  refine lv_iload_n hx hb dX1_digits_1 rfl (lv_at hl 1 rfl) ?_
  refine lv_iload_n hx hb dX1_digits_2 rfl (lv_at hl 2 rfl) ?_
  exact ny_th hS (va_free (wc := [(o, .inr (3, [.ref q1, .ref q2, .ref q3, .ref q4])), (q1, .inl (cI, 12, .inl hf)), (q2, .inl (cZ, 12, .inl bf))]) hD hS hA [0, 1, 2] rfl) ht hlocks (Nat.le_of_ble_eq_true rfl) (Nat.le_of_ble_eq_true rfl) (vx_runV (As := [.int i0, .int i1]) (rest := []) ⟨hx, hb, hml, hown, hts⟩ (c_X1_needDivision_no0 l D cI cZ o q1 q2 q3 q4 s.heap.size hf bf i0 i1 (by assumption) (by assumption) (by assumption) (by assumption)) (cwV 2 hts gX1_digits_X1_needDivision rfl rfl rfl (by decide +kernel) ⟨Nat.le_of_ble_eq_true rfl, Nat.le_of_ble_eq_true rfl⟩) ⟨ny_blind, va_recv hK hP (ci := 3) (q0 := 0) rfl rfl, fun U hU hW => ⟨rfl, ny_preU hE hP hK hD hS hA [0, 1, 2] rfl (by decide) rfl [0, 1] rfl U hU hW⟩⟩ rfl rfl hl.1 rfl (lv_room (Nat.le_of_ble_eq_true rfl)) dX1_digits_3 ⟨Nat.le_of_ble_eq_true rfl, Nat.le_of_ble_eq_true rfl⟩)
theorem in_X1_digit_X0 : ∀ w ∈ wsX00, w ∈ wsX1_digit := (fun _ h => List.mem_cons_of_mem _ (List.mem_append_left _ (List.mem_append_left _ (List.mem_append_right _ h))))
theorem in_X1_digit_X1 : ∀ w ∈ wsX10, w ∈ wsX1_digit := (fun _ h => List.mem_cons_of_mem _ (List.mem_append_left _ (List.mem_append_left _ (List.mem_append_left _ (List.mem_append_right _ h)))))
set_option maxHeartbeats 4000000 in
set_option maxRecDepth 100000 in
theorem c_X1_digit (l : Launch) (D : va_G) (cI : ClassId) (o : Nat) (q1 : Nat) (q2 : Nat) (q3 : Nat) (q4 : Nat) (q5 : Nat) (sz : Nat) (tr : Nat → Int32) (tc : Int32) (tl : Int32) (te : Int32) (i0 : Int32) (gi0 : 0 ≤ i0.toInt) (gi1 : i0 < tc) (g7 : tc.toInt ≤ 7) : Met l yX1_digit wsX1_digit ({ frames := 0, cells := 0, slots := 0, locals := 0 }) (va_Pc [.ref o, .int i0] (ny_pre D [(cI, .int)] [(o, .inr (3, [.ref q1, .ref q2, .ref q3, .ref q4])), (q3, .inr (2, [.ref q5, .int tc, .int tl, .int te])), (q5, .inl (cI, 7, .inl tr))] sz)) (vp_Si (fun r => r = tr i0.toNatClampNeg)) 0 0 (fun _ => False) := by
  refine Met.ofW (cc := cX1_digit) (maxL := 2) (ret := (some .int)) (by decide) rfl ?_
  intro p e s m args below meth c s₁ B hml hv
  obtain ⟨rfl, hsz, hP, hK, hD0, hE⟩ := hv
  have hx := B.exec
  have hb := B.bytes
  have hr := B.returns
  have hts := atoms_spec (ws := wsX1_digit) B.pre
  have hown : s.vm.findClass RX1 = some m.cls := findClass_of_methodNamed B.named
  have hlocks := B.notSynchronized
  subst hsz
  have hD := hD0.self (sz := s.heap.size)
  generalize hAe : va_A [(o, .inr (3, [.ref q1, .ref q2, .ref q3, .ref q4])), (q3, .inr (2, [.ref q5, .int tc, .int tl, .int te])), (q5, .inl (cI, 7, .inl tr))] s.heap.size = A at hD hE
  have hA : ∀ q : Nat, s.heap.size ≤ q → A q := fun q h => by rw [← hAe]; exact Or.inr h
  have hS : va_S A s.heap s.heap [] := va_S.rf
  have hl := lv_entry ([.ref o, .int i0]) (n := 2) (Nat.le_of_ble_eq_true rfl)
  rw [lg_entry_eq]
  generalize (lg_sl ([.ref o, .int i0]) ++ List.replicate (2 - (lg_sl ([.ref o, .int i0])).length) Slot.unset).toArray = ls at hl ⊢
  have hl : lv_has ls 2 [(0, .ref o), (1, .int i0)] := hl
  refine lv_iload_n hx hb dX1_digit_0 rfl (lv_at hl 1 rfl) ?_
  refine lv_if_lt (tgt := 15) hx hb dX1_digit_1 (by decide) (fun c_1 => absurd c_1 (show ¬ ((i0 : Int32) < 0) by  rw [fa_lt, ny_z0]; omega)) (fun c_1 => ?_)
  refine lv_iload_n hx hb dX1_digit_4 rfl (lv_at hl 1 rfl) ?_
  refine lv_aload_n hx hb dX1_digit_5 rfl (lv_at hl 0 rfl) ?_
  refine va_get (D := D) (ci := 3) (v := .ref q3) (C := RX1) (T := TX1) (N := 4) hx hb hts in_X1_digit_X1 hown hK hP 0 rfl rfl 2 (by decide) (hts (.fieldLink RX1 20 "Nearestclock" "told" "LNearestclock$Euclid;") (List.mem_of_getElem? (i := 3) rfl)) (fun _ h9 => h9) rfl dX1_digit_6 ?_
  refine va_getN (D := D) (ci := 2) (v := .int tc) (C := RX0) (T := TX0) (N := 4) hx hb hts in_X1_digit_X0 hown hK hP 1 rfl rfl 1 (by decide) (va_Nw.use rfl (hE.2.2.1 (109, "count", "I") (List.mem_of_getElem? (i := 0) rfl))) (fun _ h9 => h9) rfl dX1_digit_9 ?_
  refine lv_icmp_lt (tgt := 25) hx hb dX1_digit_12 (by decide) (fun c_12 => ?_) (fun c_12 => absurd (show (i0 : Int32) < tc from gi1) c_12)
  refine lv_aload_n hx hb dX1_digit_25 rfl (lv_at hl 0 rfl) ?_
  refine va_get (D := D) (ci := 3) (v := .ref q3) (C := RX1) (T := TX1) (N := 4) hx hb hts in_X1_digit_X1 hown hK hP 0 rfl rfl 2 (by decide) (hts (.fieldLink RX1 20 "Nearestclock" "told" "LNearestclock$Euclid;") (List.mem_of_getElem? (i := 3) rfl)) (fun _ h9 => h9) rfl dX1_digit_26 ?_
  refine va_getN (D := D) (ci := 2) (v := .ref q5) (C := RX0) (T := TX0) (N := 4) hx hb hts in_X1_digit_X0 hown hK hP 1 rfl rfl 0 (by decide) (va_Nw.use rfl (hE.2.2.1 (118, "row", "[I") (List.mem_of_getElem? (i := 1) rfl))) (fun _ h9 => h9) rfl dX1_digit_29 ?_
  refine lv_iload_n hx hb dX1_digit_32 rfl (lv_at hl 1 rfl) ?_
  refine va_iald hx hb hK hP 2 0 rfl rfl (n_in7 gi0 gi1 g7) dX1_digit_33 ?_
  exact W.iret (v := tr i0.toNatClampNeg) hx hb hr (fun t ht hW => ⟨tr i0.toNatClampNeg, rfl, (rfl), ht⟩) (fun q hq => absurd hq List.not_mem_nil) dX1_digit_34
set_option maxHeartbeats 4000000 in
set_option maxRecDepth 100000 in
theorem c_X1_digit_noP (l : Launch) (D : va_G) (o : Nat) (q1 : Nat) (q2 : Nat) (q3 : Nat) (q4 : Nat) (q5 : Nat) (sz : Nat) (tc : Int32) (tl : Int32) (te : Int32) (i0 : Int32) (gl : l.stackTraces = false) (gi : ¬ (0 ≤ i0.toInt ∧ i0 < tc)) : vx_Met l yX1_digit wsX1_digit ({ frames := 6, cells := 1, slots := 6, locals := 90 }) (va_Pc [.ref o, .int i0] (ny_pre D [] [(o, .inr (3, [.ref q1, .ref q2, .ref q3, .ref q4])), (q3, .inr (2, [.ref q5, .int tc, .int tl, .int te]))] sz)) (fun _ _ _ _ => False) (vx_X (fun _ : Unit => True) (fun E' _ _ => E' = ny_IO) (fun _ => False)) 1 6 (va_A [(o, .inr (3, [.ref q1, .ref q2, .ref q3, .ref q4])), (q3, .inr (2, [.ref q5, .int tc, .int tl, .int te]))] sz) := by
  refine vx_ofW (cc := cX1_digit) (maxL := 2) (ret := (some .int)) (by decide) rfl ?_
  intro p e s m args below meth c s₁ B hml ht hv
  obtain ⟨rfl, hsz, hP, hK, hD0, hE⟩ := hv
  have hx := B.exec
  have hb := B.bytes
  have hr := B.returns
  have hts := atoms_spec (ws := wsX1_digit) B.pre
  have hown : s.vm.findClass RX1 = some m.cls := findClass_of_methodNamed B.named
  have hlocks := B.notSynchronized
  subst hsz
  have hD := hD0.self (sz := s.heap.size)
  generalize hAe : va_A [(o, .inr (3, [.ref q1, .ref q2, .ref q3, .ref q4])), (q3, .inr (2, [.ref q5, .int tc, .int tl, .int te]))] s.heap.size = A at hD hE ⊢
  have hA : ∀ q : Nat, s.heap.size ≤ q → A q := fun q h => by rw [← hAe]; exact Or.inr h
  have hS : va_S A s.heap s.heap [] := va_S.rf
  have hl := lv_entry ([.ref o, .int i0]) (n := 2) (Nat.le_of_ble_eq_true rfl)
  rw [lg_entry_eq]
  generalize (lg_sl ([.ref o, .int i0]) ++ List.replicate (2 - (lg_sl ([.ref o, .int i0])).length) Slot.unset).toArray = ls at hl ⊢
  have hl : lv_has ls 2 [(0, .ref o), (1, .int i0)] := hl
  refine lv_iload_n hx hb dX1_digit_0 rfl (lv_at hl 1 rfl) ?_
  refine lv_if_lt (tgt := 15) hx hb dX1_digit_1 (by decide) (fun c_1 => ?_) (fun c_1 => ?_)
  · exact ny_throw (cls := ny_IO) hx hb gl hown (by decide) (hts (.classLink RX1 113 "java/lang/IndexOutOfBoundsException") (List.mem_of_getElem? (i := 1) rfl)) (hts (.initialized "java/lang/IndexOutOfBoundsException") (List.mem_of_getElem? (i := 2) rfl)) hE (List.mem_of_getElem? (i := 5) rfl) (List.mem_of_getElem? (i := 0) rfl) (fun w h => hts w ((fun _ h => List.mem_cons_of_mem _ (List.mem_append_left _ (List.mem_append_right _ h))) w h)) ny_b117 ny_h117 hS (hl.1.trans hml.symm) dX1_digit_15 dX1_digit_18 dX1_digit_19 dX1_digit_21 dX1_digit_24 ht (Nat.le_of_ble_eq_true rfl) (Nat.le_of_ble_eq_true rfl) (Nat.le_of_ble_eq_true rfl) (Nat.le_of_ble_eq_true rfl) hlocks (Nat.le_of_ble_eq_true rfl) (Nat.le_of_ble_eq_true rfl)
  · refine lv_iload_n hx hb dX1_digit_4 rfl (lv_at hl 1 rfl) ?_
    refine lv_aload_n hx hb dX1_digit_5 rfl (lv_at hl 0 rfl) ?_
    refine va_get (D := D) (ci := 3) (v := .ref q3) (C := RX1) (T := TX1) (N := 4) hx hb hts in_X1_digit_X1 hown hK hP 0 rfl rfl 2 (by decide) (hts (.fieldLink RX1 20 "Nearestclock" "told" "LNearestclock$Euclid;") (List.mem_of_getElem? (i := 3) rfl)) (fun _ h9 => h9) rfl dX1_digit_6 ?_
    refine va_getN (D := D) (ci := 2) (v := .int tc) (C := RX0) (T := TX0) (N := 4) hx hb hts in_X1_digit_X0 hown hK hP 1 rfl rfl 1 (by decide) (va_Nw.use rfl (hE.2.2.1 (109, "count", "I") (List.mem_of_getElem? (i := 0) rfl))) (fun _ h9 => h9) rfl dX1_digit_9 ?_
    refine lv_icmp_lt (tgt := 25) hx hb dX1_digit_12 (by decide) (fun c_12 => absurd c_12 (show ¬ ((i0 : Int32) < tc) from fun q => gi ⟨by rw [fa_lt, ny_z0] at c_1; omega, q⟩)) (fun c_12 => ?_)
    exact ny_throw (cls := ny_IO) hx hb gl hown (by decide) (hts (.classLink RX1 113 "java/lang/IndexOutOfBoundsException") (List.mem_of_getElem? (i := 1) rfl)) (hts (.initialized "java/lang/IndexOutOfBoundsException") (List.mem_of_getElem? (i := 2) rfl)) hE (List.mem_of_getElem? (i := 5) rfl) (List.mem_of_getElem? (i := 0) rfl) (fun w h => hts w ((fun _ h => List.mem_cons_of_mem _ (List.mem_append_left _ (List.mem_append_right _ h))) w h)) ny_b117 ny_h117 hS (hl.1.trans hml.symm) dX1_digit_15 dX1_digit_18 dX1_digit_19 dX1_digit_21 dX1_digit_24 ht (Nat.le_of_ble_eq_true rfl) (Nat.le_of_ble_eq_true rfl) (Nat.le_of_ble_eq_true rfl) (Nat.le_of_ble_eq_true rfl) hlocks (Nat.le_of_ble_eq_true rfl) (Nat.le_of_ble_eq_true rfl)
theorem in_X1_above_X1 : ∀ w ∈ wsX10, w ∈ wsX1_above := (fun _ h => List.mem_cons_of_mem _ (List.mem_append_left _ (List.mem_append_left _ (List.mem_append_left _ (List.mem_append_right _ h)))))
set_option maxHeartbeats 4000000 in
set_option maxRecDepth 100000 in
theorem c_X1_above (l : Launch) (D : va_G) (cI : ClassId) (o : Nat) (q1 : Nat) (q2 : Nat) (q3 : Nat) (q4 : Nat) (q5 : Nat) (sz : Nat) (tr : Nat → Int32) (tc : Int32) (tl : Int32) (te : Int32) (i0 : Int32) (gi0 : 0 ≤ i0.toInt) (gi1 : i0 ≤ tc) (g7 : tc.toInt ≤ 7) : Met l yX1_above wsX1_above ({ frames := 2, cells := 0, slots := 0, locals := 48 }) (va_Pc [.ref o, .int i0] (ny_pre D [(cI, .int)] [(o, .inr (3, [.ref q1, .ref q2, .ref q3, .ref q4])), (q3, .inr (2, [.ref q5, .int tc, .int tl, .int te])), (q5, .inl (cI, 7, .inl tr))] sz)) (vp_Si (fun r => r = (f_sh tr 0 1 i0.toNatClampNeg).2)) 0 0 (fun _ => False) := by
  refine Met.ofW (cc := cX1_above) (maxL := 2) (ret := (some .int)) (by decide) rfl ?_
  intro p e s m args below meth c s₁ B hml hv
  obtain ⟨rfl, hsz, hP, hK, hD0, hE⟩ := hv
  have hx := B.exec
  have hb := B.bytes
  have hr := B.returns
  have hts := atoms_spec (ws := wsX1_above) B.pre
  have hown : s.vm.findClass RX1 = some m.cls := findClass_of_methodNamed B.named
  have hlocks := B.notSynchronized
  subst hsz
  have hD := hD0.self (sz := s.heap.size)
  generalize hAe : va_A [(o, .inr (3, [.ref q1, .ref q2, .ref q3, .ref q4])), (q3, .inr (2, [.ref q5, .int tc, .int tl, .int te])), (q5, .inl (cI, 7, .inl tr))] s.heap.size = A at hD hE
  have hA : ∀ q : Nat, s.heap.size ≤ q → A q := fun q h => by rw [← hAe]; exact Or.inr h
  have hS : va_S A s.heap s.heap [] := va_S.rf
  have hl := lv_entry ([.ref o, .int i0]) (n := 2) (Nat.le_of_ble_eq_true rfl)
  rw [lg_entry_eq]
  generalize (lg_sl ([.ref o, .int i0]) ++ List.replicate (2 - (lg_sl ([.ref o, .int i0])).length) Slot.unset).toArray = ls at hl ⊢
  have hl : lv_has ls 2 [(0, .ref o), (1, .int i0)] := hl
  refine lv_aload_n hx hb dX1_above_0 rfl (lv_at hl 0 rfl) ?_
  refine lv_iload_n hx hb dX1_above_1 rfl (lv_at hl 1 rfl) ?_
  refine va_csv (va_Run.run (va_runV (As := [.int i0]) (rest := []) ⟨hx, hb, hml, hown, hts⟩ (c_X1_needDigits l D o q1 q2 q3 q4 q5 s.heap.size tc tl te i0 (by assumption) (by assumption)) (cwV 1 hts gX1_above_X1_needDigits rfl rfl rfl (by decide +kernel) ⟨Nat.le_of_ble_eq_true rfl, Nat.le_of_ble_eq_true rfl⟩) ⟨ny_blind, va_recv hK hP (ci := 3) (q0 := 0) rfl rfl, fun U hU hW => ⟨rfl, ny_preU hE hP hK hD hS hA [0, 1] rfl (by decide) rfl [] rfl U hU hW⟩⟩ rfl rfl hl.1 rfl (lv_room (Nat.le_of_ble_eq_true rfl)) dX1_above_2 ⟨Nat.le_of_ble_eq_true rfl, Nat.le_of_ble_eq_true rfl⟩)) (fun hw => ?_)
  refine lv_aload_n hx hb dX1_above_5 rfl (lv_at hl 0 rfl) ?_
  refine va_get (D := D) (ci := 3) (v := .ref q3) (C := RX1) (T := TX1) (N := 4) hx hb hts in_X1_above_X1 hown hK hP 0 rfl rfl 2 (by decide) (hts (.fieldLink RX1 20 "Nearestclock" "told" "LNearestclock$Euclid;") (List.mem_of_getElem? (i := 1) rfl)) (fun _ h9 => h9) rfl dX1_above_6 ?_
  refine lv_iload_n hx hb dX1_above_9 rfl (lv_at hl 1 rfl) ?_
  refine vp_callSi (va_Run.run (va_runVN (As := [.int i0]) (rest := []) ⟨hx, hb, hml, hown, hts⟩ (c_X0_aboveLine l D cI q3 q5 s.heap.size tr tc tl te i0 (by assumption) (by assumption) (by assumption)) ⟨va_cnB 1 hts gX1_above_X0_aboveLine_n124 rfl rfl rfl (hE.2.2.2.1 (RX1, 124, yX0_aboveLine) (List.mem_of_getElem? (i := 1) rfl)) (hts (.initialized RX0) (List.mem_of_getElem? (i := 10) rfl)) (by decide +kernel) ⟨Nat.le_of_ble_eq_true rfl, Nat.le_of_ble_eq_true rfl⟩, (hts (.instanceMethod yX0_aboveLine) (List.mem_of_getElem? (i := 9) rfl)), (hts (.selects RX0 yX0_aboveLine yX0_aboveLine) (List.mem_of_getElem? (i := 11) rfl))⟩ ⟨ny_blind, va_recv hK hP (ci := 2) (q0 := 1) rfl rfl, fun U hU hW => ⟨rfl, ny_preU hE hP hK hD hS hA [1, 2] rfl (by decide) rfl [0] rfl U hU hW⟩⟩ rfl rfl hl.1 rfl (lv_room (Nat.le_of_ble_eq_true rfl)) dX1_above_10 ⟨Nat.le_of_ble_eq_true rfl, Nat.le_of_ble_eq_true rfl⟩)) (fun r_10 hw_10 => ?_)
  have hw_10 : r_10 = (f_sh tr 0 1 i0.toNatClampNeg).2 := hw_10
  subst hw_10
  exact W.iret (v := (f_sh tr 0 1 i0.toNatClampNeg).2) hx hb hr (fun t ht hW => ⟨(f_sh tr 0 1 i0.toNatClampNeg).2, rfl, (rfl), ht⟩) (fun q hq => absurd hq List.not_mem_nil) dX1_above_13
set_option maxHeartbeats 4000000 in
set_option maxRecDepth 100000 in
theorem c_X1_above_noP (l : Launch) (D : va_G) (o : Nat) (q1 : Nat) (q2 : Nat) (q3 : Nat) (q4 : Nat) (q5 : Nat) (sz : Nat) (tc : Int32) (tl : Int32) (te : Int32) (i0 : Int32) (gl : l.stackTraces = false) (gi : ¬ (0 ≤ i0.toInt ∧ i0 ≤ tc)) : vx_Met l yX1_above wsX1_above ({ frames := 7, cells := 1, slots := 6, locals := 111 }) (va_Pc [.ref o, .int i0] (ny_pre D [] [(o, .inr (3, [.ref q1, .ref q2, .ref q3, .ref q4])), (q3, .inr (2, [.ref q5, .int tc, .int tl, .int te]))] sz)) (fun _ _ _ _ => False) (vx_X (fun _ : Unit => True) (fun E' _ _ => E' = ny_IO) (fun _ => False)) 1 6 (va_A [(o, .inr (3, [.ref q1, .ref q2, .ref q3, .ref q4])), (q3, .inr (2, [.ref q5, .int tc, .int tl, .int te]))] sz) := by
  refine vx_ofW (cc := cX1_above) (maxL := 2) (ret := (some .int)) (by decide) rfl ?_
  intro p e s m args below meth c s₁ B hml ht hv
  obtain ⟨rfl, hsz, hP, hK, hD0, hE⟩ := hv
  have hx := B.exec
  have hb := B.bytes
  have hr := B.returns
  have hts := atoms_spec (ws := wsX1_above) B.pre
  have hown : s.vm.findClass RX1 = some m.cls := findClass_of_methodNamed B.named
  have hlocks := B.notSynchronized
  subst hsz
  have hD := hD0.self (sz := s.heap.size)
  generalize hAe : va_A [(o, .inr (3, [.ref q1, .ref q2, .ref q3, .ref q4])), (q3, .inr (2, [.ref q5, .int tc, .int tl, .int te]))] s.heap.size = A at hD hE ⊢
  have hA : ∀ q : Nat, s.heap.size ≤ q → A q := fun q h => by rw [← hAe]; exact Or.inr h
  have hS : va_S A s.heap s.heap [] := va_S.rf
  have hl := lv_entry ([.ref o, .int i0]) (n := 2) (Nat.le_of_ble_eq_true rfl)
  rw [lg_entry_eq]
  generalize (lg_sl ([.ref o, .int i0]) ++ List.replicate (2 - (lg_sl ([.ref o, .int i0])).length) Slot.unset).toArray = ls at hl ⊢
  have hl : lv_has ls 2 [(0, .ref o), (1, .int i0)] := hl
  refine lv_aload_n hx hb dX1_above_0 rfl (lv_at hl 0 rfl) ?_
  refine lv_iload_n hx hb dX1_above_1 rfl (lv_at hl 1 rfl) ?_
  exact ny_th hS (va_free (wc := [(o, .inr (3, [.ref q1, .ref q2, .ref q3, .ref q4])), (q3, .inr (2, [.ref q5, .int tc, .int tl, .int te]))]) hD hS hA [0, 1] rfl) ht hlocks (Nat.le_of_ble_eq_true rfl) (Nat.le_of_ble_eq_true rfl) (vx_runV (As := [.int i0]) (rest := []) ⟨hx, hb, hml, hown, hts⟩ (c_X1_needDigits_noP l D o q1 q2 q3 q4 q5 s.heap.size tc tl te i0 (by assumption) (by assumption)) (cwV 1 hts gX1_above_X1_needDigits rfl rfl rfl (by decide +kernel) ⟨Nat.le_of_ble_eq_true rfl, Nat.le_of_ble_eq_true rfl⟩) ⟨ny_blind, va_recv hK hP (ci := 3) (q0 := 0) rfl rfl, fun U hU hW => ⟨rfl, ny_preU hE hP hK hD hS hA [0, 1] rfl (by decide) rfl [] rfl U hU hW⟩⟩ rfl rfl hl.1 rfl (lv_room (Nat.le_of_ble_eq_true rfl)) dX1_above_2 ⟨Nat.le_of_ble_eq_true rfl, Nat.le_of_ble_eq_true rfl⟩)
theorem in_X1_below_X1 : ∀ w ∈ wsX10, w ∈ wsX1_below := (fun _ h => List.mem_cons_of_mem _ (List.mem_append_left _ (List.mem_append_left _ (List.mem_append_left _ (List.mem_append_right _ h)))))
set_option maxHeartbeats 4000000 in
set_option maxRecDepth 100000 in
theorem c_X1_below (l : Launch) (D : va_G) (cI : ClassId) (o : Nat) (q1 : Nat) (q2 : Nat) (q3 : Nat) (q4 : Nat) (q5 : Nat) (sz : Nat) (tr : Nat → Int32) (tc : Int32) (tl : Int32) (te : Int32) (i0 : Int32) (gi0 : 0 ≤ i0.toInt) (gi1 : i0 ≤ tc) (g7 : tc.toInt ≤ 7) : Met l yX1_below wsX1_below ({ frames := 2, cells := 0, slots := 0, locals := 48 }) (va_Pc [.ref o, .int i0] (ny_pre D [(cI, .int)] [(o, .inr (3, [.ref q1, .ref q2, .ref q3, .ref q4])), (q3, .inr (2, [.ref q5, .int tc, .int tl, .int te])), (q5, .inl (cI, 7, .inl tr))] sz)) (vp_Si (fun r => r = (f_sh tr 1 0 i0.toNatClampNeg).2)) 0 0 (fun _ => False) := by
  refine Met.ofW (cc := cX1_below) (maxL := 2) (ret := (some .int)) (by decide) rfl ?_
  intro p e s m args below meth c s₁ B hml hv
  obtain ⟨rfl, hsz, hP, hK, hD0, hE⟩ := hv
  have hx := B.exec
  have hb := B.bytes
  have hr := B.returns
  have hts := atoms_spec (ws := wsX1_below) B.pre
  have hown : s.vm.findClass RX1 = some m.cls := findClass_of_methodNamed B.named
  have hlocks := B.notSynchronized
  subst hsz
  have hD := hD0.self (sz := s.heap.size)
  generalize hAe : va_A [(o, .inr (3, [.ref q1, .ref q2, .ref q3, .ref q4])), (q3, .inr (2, [.ref q5, .int tc, .int tl, .int te])), (q5, .inl (cI, 7, .inl tr))] s.heap.size = A at hD hE
  have hA : ∀ q : Nat, s.heap.size ≤ q → A q := fun q h => by rw [← hAe]; exact Or.inr h
  have hS : va_S A s.heap s.heap [] := va_S.rf
  have hl := lv_entry ([.ref o, .int i0]) (n := 2) (Nat.le_of_ble_eq_true rfl)
  rw [lg_entry_eq]
  generalize (lg_sl ([.ref o, .int i0]) ++ List.replicate (2 - (lg_sl ([.ref o, .int i0])).length) Slot.unset).toArray = ls at hl ⊢
  have hl : lv_has ls 2 [(0, .ref o), (1, .int i0)] := hl
  refine lv_aload_n hx hb dX1_below_0 rfl (lv_at hl 0 rfl) ?_
  refine lv_iload_n hx hb dX1_below_1 rfl (lv_at hl 1 rfl) ?_
  refine va_csv (va_Run.run (va_runV (As := [.int i0]) (rest := []) ⟨hx, hb, hml, hown, hts⟩ (c_X1_needDigits l D o q1 q2 q3 q4 q5 s.heap.size tc tl te i0 (by assumption) (by assumption)) (cwV 1 hts gX1_below_X1_needDigits rfl rfl rfl (by decide +kernel) ⟨Nat.le_of_ble_eq_true rfl, Nat.le_of_ble_eq_true rfl⟩) ⟨ny_blind, va_recv hK hP (ci := 3) (q0 := 0) rfl rfl, fun U hU hW => ⟨rfl, ny_preU hE hP hK hD hS hA [0, 1] rfl (by decide) rfl [] rfl U hU hW⟩⟩ rfl rfl hl.1 rfl (lv_room (Nat.le_of_ble_eq_true rfl)) dX1_below_2 ⟨Nat.le_of_ble_eq_true rfl, Nat.le_of_ble_eq_true rfl⟩)) (fun hw => ?_)
  refine lv_aload_n hx hb dX1_below_5 rfl (lv_at hl 0 rfl) ?_
  refine va_get (D := D) (ci := 3) (v := .ref q3) (C := RX1) (T := TX1) (N := 4) hx hb hts in_X1_below_X1 hown hK hP 0 rfl rfl 2 (by decide) (hts (.fieldLink RX1 20 "Nearestclock" "told" "LNearestclock$Euclid;") (List.mem_of_getElem? (i := 1) rfl)) (fun _ h9 => h9) rfl dX1_below_6 ?_
  refine lv_iload_n hx hb dX1_below_9 rfl (lv_at hl 1 rfl) ?_
  refine vp_callSi (va_Run.run (va_runVN (As := [.int i0]) (rest := []) ⟨hx, hb, hml, hown, hts⟩ (c_X0_belowLine l D cI q3 q5 s.heap.size tr tc tl te i0 (by assumption) (by assumption) (by assumption)) ⟨va_cnB 1 hts gX1_below_X0_belowLine_n127 rfl rfl rfl (hE.2.2.2.1 (RX1, 127, yX0_belowLine) (List.mem_of_getElem? (i := 2) rfl)) (hts (.initialized RX0) (List.mem_of_getElem? (i := 10) rfl)) (by decide +kernel) ⟨Nat.le_of_ble_eq_true rfl, Nat.le_of_ble_eq_true rfl⟩, (hts (.instanceMethod yX0_belowLine) (List.mem_of_getElem? (i := 9) rfl)), (hts (.selects RX0 yX0_belowLine yX0_belowLine) (List.mem_of_getElem? (i := 11) rfl))⟩ ⟨ny_blind, va_recv hK hP (ci := 2) (q0 := 1) rfl rfl, fun U hU hW => ⟨rfl, ny_preU hE hP hK hD hS hA [1, 2] rfl (by decide) rfl [0] rfl U hU hW⟩⟩ rfl rfl hl.1 rfl (lv_room (Nat.le_of_ble_eq_true rfl)) dX1_below_10 ⟨Nat.le_of_ble_eq_true rfl, Nat.le_of_ble_eq_true rfl⟩)) (fun r_10 hw_10 => ?_)
  have hw_10 : r_10 = (f_sh tr 1 0 i0.toNatClampNeg).2 := hw_10
  subst hw_10
  exact W.iret (v := (f_sh tr 1 0 i0.toNatClampNeg).2) hx hb hr (fun t ht hW => ⟨(f_sh tr 1 0 i0.toNatClampNeg).2, rfl, (rfl), ht⟩) (fun q hq => absurd hq List.not_mem_nil) dX1_below_13
set_option maxHeartbeats 4000000 in
set_option maxRecDepth 100000 in
theorem c_X1_below_noP (l : Launch) (D : va_G) (o : Nat) (q1 : Nat) (q2 : Nat) (q3 : Nat) (q4 : Nat) (q5 : Nat) (sz : Nat) (tc : Int32) (tl : Int32) (te : Int32) (i0 : Int32) (gl : l.stackTraces = false) (gi : ¬ (0 ≤ i0.toInt ∧ i0 ≤ tc)) : vx_Met l yX1_below wsX1_below ({ frames := 7, cells := 1, slots := 6, locals := 111 }) (va_Pc [.ref o, .int i0] (ny_pre D [] [(o, .inr (3, [.ref q1, .ref q2, .ref q3, .ref q4])), (q3, .inr (2, [.ref q5, .int tc, .int tl, .int te]))] sz)) (fun _ _ _ _ => False) (vx_X (fun _ : Unit => True) (fun E' _ _ => E' = ny_IO) (fun _ => False)) 1 6 (va_A [(o, .inr (3, [.ref q1, .ref q2, .ref q3, .ref q4])), (q3, .inr (2, [.ref q5, .int tc, .int tl, .int te]))] sz) := by
  refine vx_ofW (cc := cX1_below) (maxL := 2) (ret := (some .int)) (by decide) rfl ?_
  intro p e s m args below meth c s₁ B hml ht hv
  obtain ⟨rfl, hsz, hP, hK, hD0, hE⟩ := hv
  have hx := B.exec
  have hb := B.bytes
  have hr := B.returns
  have hts := atoms_spec (ws := wsX1_below) B.pre
  have hown : s.vm.findClass RX1 = some m.cls := findClass_of_methodNamed B.named
  have hlocks := B.notSynchronized
  subst hsz
  have hD := hD0.self (sz := s.heap.size)
  generalize hAe : va_A [(o, .inr (3, [.ref q1, .ref q2, .ref q3, .ref q4])), (q3, .inr (2, [.ref q5, .int tc, .int tl, .int te]))] s.heap.size = A at hD hE ⊢
  have hA : ∀ q : Nat, s.heap.size ≤ q → A q := fun q h => by rw [← hAe]; exact Or.inr h
  have hS : va_S A s.heap s.heap [] := va_S.rf
  have hl := lv_entry ([.ref o, .int i0]) (n := 2) (Nat.le_of_ble_eq_true rfl)
  rw [lg_entry_eq]
  generalize (lg_sl ([.ref o, .int i0]) ++ List.replicate (2 - (lg_sl ([.ref o, .int i0])).length) Slot.unset).toArray = ls at hl ⊢
  have hl : lv_has ls 2 [(0, .ref o), (1, .int i0)] := hl
  refine lv_aload_n hx hb dX1_below_0 rfl (lv_at hl 0 rfl) ?_
  refine lv_iload_n hx hb dX1_below_1 rfl (lv_at hl 1 rfl) ?_
  exact ny_th hS (va_free (wc := [(o, .inr (3, [.ref q1, .ref q2, .ref q3, .ref q4])), (q3, .inr (2, [.ref q5, .int tc, .int tl, .int te]))]) hD hS hA [0, 1] rfl) ht hlocks (Nat.le_of_ble_eq_true rfl) (Nat.le_of_ble_eq_true rfl) (vx_runV (As := [.int i0]) (rest := []) ⟨hx, hb, hml, hown, hts⟩ (c_X1_needDigits_noP l D o q1 q2 q3 q4 q5 s.heap.size tc tl te i0 (by assumption) (by assumption)) (cwV 1 hts gX1_below_X1_needDigits rfl rfl rfl (by decide +kernel) ⟨Nat.le_of_ble_eq_true rfl, Nat.le_of_ble_eq_true rfl⟩) ⟨ny_blind, va_recv hK hP (ci := 3) (q0 := 0) rfl rfl, fun U hU hW => ⟨rfl, ny_preU hE hP hK hD hS hA [0, 1] rfl (by decide) rfl [] rfl U hU hW⟩⟩ rfl rfl hl.1 rfl (lv_room (Nat.le_of_ble_eq_true rfl)) dX1_below_2 ⟨Nat.le_of_ble_eq_true rfl, Nat.le_of_ble_eq_true rfl⟩)
theorem in_X1_inverse_X1 : ∀ w ∈ wsX10, w ∈ wsX1_inverse := (fun _ h => List.mem_cons_of_mem _ (List.mem_append_left _ (List.mem_append_left _ (List.mem_append_left _ (List.mem_append_left _ (List.mem_append_left _ (List.mem_append_right _ h)))))))
set_option maxHeartbeats 4000000 in
set_option maxRecDepth 100000 in
theorem c_X1_inverse (l : Launch) (D : va_G) (cI : ClassId) (cZ : ClassId) (o : Nat) (q1 : Nat) (q2 : Nat) (q3 : Nat) (q4 : Nat) (sz : Nat) (hf : Nat → Int32) (bf : Nat → Int32) (q6 : Nat) (sr : Nat → Int32) (sc : Int32) (sl : Int32) (se : Int32) (i0 : Int32) (i1 : Int32) (i2 : Int32) (gp0 : vp_in i0 12) (gp1 : vp_in i1 12) (gp2 : vp_in i2 12) (g0 : ¬ hf i2.toNatClampNeg = 0) (gH : ny_H hf) (gi : ¬ f_iv (hf i1.toNatClampNeg) (hf i2.toNatClampNeg) = 128) : Met l yX1_inverse wsX1_inverse ({ frames := 4, cells := 0, slots := 0, locals := 97 }) (va_Pc [.ref o, .int i0, .int i1, .int i2] (ny_pre D [(cI, .int), (cZ, .boolean)] [(o, .inr (3, [.ref q1, .ref q2, .ref q3, .ref q4])), (q1, .inl (cI, 12, .inl hf)), (q2, .inl (cZ, 12, .inl bf)), (q4, .inr (2, [.ref q6, .int sc, .int sl, .int se])), (q6, .inl (cI, 7, .inl sr))] sz)) (va_Ql (fun (r : Int64) (u : Unit) => r = f_bt (f_iv (hf i1.toNatClampNeg) (hf i2.toNatClampNeg)) 0) (fun (u : Unit) t => ny_at D [(cI, .int), (cZ, .boolean)] (va_A [(o, .inr (3, [.ref q1, .ref q2, .ref q3, .ref q4])), (q1, .inl (cI, 12, .inl hf)), (q2, .inl (cZ, 12, .inl bf)), (q4, .inr (2, [.ref q6, .int sc, .int sl, .int se])), (q6, .inl (cI, 7, .inl sr))] sz) [(o, .inr (3, [.ref q1, .ref q2, .ref q3, .ref q4])), (q1, .inl (cI, 12, .inl (upd hf i0.toNatClampNeg (f_iv (hf i1.toNatClampNeg) (hf i2.toNatClampNeg))))), (q2, .inl (cZ, 12, .inl (upd bf i0.toNatClampNeg 0))), (q4, .inr (2, [.ref q6, .int (nI (f_ln (hf i1.toNatClampNeg) (hf i2.toNatClampNeg))), .int (f_la (hf i1.toNatClampNeg) (hf i2.toNatClampNeg)), .int 1])), (q6, .inl (cI, 7, .inl (f_row sr (hf i1.toNatClampNeg) (hf i2.toNatClampNeg) (f_ln (hf i1.toNatClampNeg) (hf i2.toNatClampNeg)))))] t) (va_A [(o, .inr (3, [.ref q1, .ref q2, .ref q3, .ref q4])), (q1, .inl (cI, 12, .inl hf)), (q2, .inl (cZ, 12, .inl bf)), (q4, .inr (2, [.ref q6, .int sc, .int sl, .int se])), (q6, .inl (cI, 7, .inl sr))] sz)) 0 0 (va_A [(o, .inr (3, [.ref q1, .ref q2, .ref q3, .ref q4])), (q1, .inl (cI, 12, .inl hf)), (q2, .inl (cZ, 12, .inl bf)), (q4, .inr (2, [.ref q6, .int sc, .int sl, .int se])), (q6, .inl (cI, 7, .inl sr))] sz) := by
  refine Met.ofW (cc := cX1_inverse) (maxL := 5) (ret := (some .long)) (by decide) rfl ?_
  intro p e s m args below meth c s₁ B hml hv
  obtain ⟨rfl, hsz, hP, hK, hD0, hE⟩ := hv
  have hx := B.exec
  have hb := B.bytes
  have hr := B.returns
  have hts := atoms_spec (ws := wsX1_inverse) B.pre
  have hown : s.vm.findClass RX1 = some m.cls := findClass_of_methodNamed B.named
  have hlocks := B.notSynchronized
  subst hsz
  have hD := hD0.self (sz := s.heap.size)
  generalize hAe : va_A [(o, .inr (3, [.ref q1, .ref q2, .ref q3, .ref q4])), (q1, .inl (cI, 12, .inl hf)), (q2, .inl (cZ, 12, .inl bf)), (q4, .inr (2, [.ref q6, .int sc, .int sl, .int se])), (q6, .inl (cI, 7, .inl sr))] s.heap.size = A at hD hE ⊢
  have hA : ∀ q : Nat, s.heap.size ≤ q → A q := fun q h => by rw [← hAe]; exact Or.inr h
  have hS : va_S A s.heap s.heap [] := va_S.rf
  have hl := lv_entry ([.ref o, .int i0, .int i1, .int i2]) (n := 5) (Nat.le_of_ble_eq_true rfl)
  rw [lg_entry_eq]
  generalize (lg_sl ([.ref o, .int i0, .int i1, .int i2]) ++ List.replicate (5 - (lg_sl ([.ref o, .int i0, .int i1, .int i2])).length) Slot.unset).toArray = ls at hl ⊢
  have hl : lv_has ls 5 [(0, .ref o), (1, .int i0), (2, .int i1), (3, .int i2)] := hl
  refine lv_iload_n hx hb dX1_inverse_0 rfl (lv_at hl 1 rfl) ?_
  refine va_csv (va_Run.run (va_runS (As := [.int i0]) (rest := []) ⟨hx, hb, hml, hown, hts⟩ (c_X1_needPlace l i0 (by assumption)) (va_cwS 1 hts gX1_inverse_X1_needPlace rfl rfl rfl (by decide +kernel) ⟨Nat.le_of_ble_eq_true rfl, Nat.le_of_ble_eq_true rfl⟩) ⟨ny_blindT, fun U hU hW => ⟨rfl, trivial⟩⟩ rfl rfl hl.1 rfl (lv_room (Nat.le_of_ble_eq_true rfl)) dX1_inverse_1 ⟨Nat.le_of_ble_eq_true rfl, Nat.le_of_ble_eq_true rfl⟩)) (fun hw => ?_)
  refine lv_aload_n hx hb dX1_inverse_4 rfl (lv_at hl 0 rfl) ?_
  refine lv_iload_n hx hb dX1_inverse_5 rfl (lv_at hl 2 rfl) ?_
  refine lv_iload_n hx hb dX1_inverse_6 rfl (lv_at hl 3 rfl) ?_
  refine va_csv (va_Run.run (va_runV (As := [.int i1, .int i2]) (rest := []) ⟨hx, hb, hml, hown, hts⟩ (c_X1_needDivision l D cI cZ o q1 q2 q3 q4 s.heap.size hf bf i1 i2 (by assumption) (by assumption) (by assumption)) (cwV 2 hts gX1_inverse_X1_needDivision rfl rfl rfl (by decide +kernel) ⟨Nat.le_of_ble_eq_true rfl, Nat.le_of_ble_eq_true rfl⟩) ⟨ny_blind, va_recv hK hP (ci := 3) (q0 := 0) rfl rfl, fun U hU hW => ⟨rfl, ny_preU hE hP hK hD hS hA [0, 1, 2] rfl (by decide) rfl [0, 1] rfl U hU hW⟩⟩ rfl rfl hl.1 rfl (lv_room (Nat.le_of_ble_eq_true rfl)) dX1_inverse_7 ⟨Nat.le_of_ble_eq_true rfl, Nat.le_of_ble_eq_true rfl⟩)) (fun hw => ?_)
  refine lv_aload_n hx hb dX1_inverse_10 rfl (lv_at hl 0 rfl) ?_
  refine lv_aload_n hx hb dX1_inverse_11 rfl (lv_at hl 0 rfl) ?_
  refine va_get (D := D) (ci := 3) (v := .ref q1) (C := RX1) (T := TX1) (N := 4) hx hb hts in_X1_inverse_X1 hown hK hP 0 rfl rfl 0 (by decide) (hts (.fieldLink RX1 9 "Nearestclock" "held" "[I") (List.mem_of_getElem? (i := 3) rfl)) (fun _ h9 => h9) rfl dX1_inverse_12 ?_
  refine lv_iload_n hx hb dX1_inverse_15 rfl (lv_at hl 2 rfl) ?_
  refine va_iald hx hb hK hP 1 0 rfl rfl (by assumption) dX1_inverse_16 ?_
  refine lv_aload_n hx hb dX1_inverse_17 rfl (lv_at hl 0 rfl) ?_
  refine va_get (D := D) (ci := 3) (v := .ref q1) (C := RX1) (T := TX1) (N := 4) hx hb hts in_X1_inverse_X1 hown hK hP 0 rfl rfl 0 (by decide) (hts (.fieldLink RX1 9 "Nearestclock" "held" "[I") (List.mem_of_getElem? (i := 3) rfl)) (fun _ h9 => h9) rfl dX1_inverse_18 ?_
  refine lv_iload_n hx hb dX1_inverse_21 rfl (lv_at hl 3 rfl) ?_
  refine va_iald hx hb hK hP 1 0 rfl rfl (by assumption) dX1_inverse_22 ?_
  refine ny_i (wc := [(o, .inr (3, [.ref q1, .ref q2, .ref q3, .ref q4])), (q4, .inr (2, [.ref q6, .int sc, .int sl, .int se])), (q6, .inl (cI, 7, .inl sr))]) (wr := [(q1, .inl (cI, 12, .inl hf)), (q2, .inl (cZ, 12, .inl bf))]) hP hD hS hA [0, 3, 4] [1, 2] rfl rfl (by decide) (by decide) (va_runV (As := [.int (hf i1.toNatClampNeg), .int (hf i2.toNatClampNeg)]) (rest := []) ⟨hx, hb, hml, hown, hts⟩ (c_X1_inverseOf l D cI o q1 q2 q3 q4 q6 s.heap.size sr sc sl se (hf i1.toNatClampNeg) (hf i2.toNatClampNeg) (gH _ (n_ix gp1)) (gH _ (n_ix gp2)) (by assumption)) (cwV 2 hts gX1_inverse_X1_inverseOf rfl rfl rfl (by decide +kernel) ⟨Nat.le_of_ble_eq_true rfl, Nat.le_of_ble_eq_true rfl⟩) ⟨ny_blind, va_recv hK hP (ci := 3) (q0 := 0) rfl rfl, fun U hU hW => ⟨rfl, ny_preU hE hP hK hD hS hA [0, 3, 4] rfl (by decide) rfl [0] rfl U hU hW⟩⟩ rfl rfl hl.1 rfl (lv_room (Nat.le_of_ble_eq_true rfl)) dX1_inverse_23 ⟨Nat.le_of_ble_eq_true rfl, Nat.le_of_ble_eq_true rfl⟩) (fun r_23 u H locs hw_23 hP hD hS => ?_)
  have hP : va_P D vwCl [(q1, .inl (cI, 12, .inl hf)), (q2, .inl (cZ, 12, .inl bf)), (o, .inr (3, [.ref q1, .ref q2, .ref q3, .ref q4])), (q4, .inr (2, [.ref q6, .int (nI (f_ln (hf i1.toNatClampNeg) (hf i2.toNatClampNeg))), .int (f_la (hf i1.toNatClampNeg) (hf i2.toNatClampNeg)), .int 1])), (q6, .inl (cI, 7, .inl (f_row sr (hf i1.toNatClampNeg) (hf i2.toNatClampNeg) (f_ln (hf i1.toNatClampNeg) (hf i2.toNatClampNeg)))))] H := hP
  have hD : va_D A [(q1, .inl (cI, 12, .inl hf)), (q2, .inl (cZ, 12, .inl bf)), (o, .inr (3, [.ref q1, .ref q2, .ref q3, .ref q4])), (q4, .inr (2, [.ref q6, .int (nI (f_ln (hf i1.toNatClampNeg) (hf i2.toNatClampNeg))), .int (f_la (hf i1.toNatClampNeg) (hf i2.toNatClampNeg)), .int 1])), (q6, .inl (cI, 7, .inl (f_row sr (hf i1.toNatClampNeg) (hf i2.toNatClampNeg) (f_ln (hf i1.toNatClampNeg) (hf i2.toNatClampNeg)))))] := hD
  have hw_23 : r_23 = f_iv (hf i1.toNatClampNeg) (hf i2.toNatClampNeg) := hw_23
  subst hw_23
  refine lv_istore (lv' := [(4, .int (f_iv (hf i1.toNatClampNeg) (hf i2.toNatClampNeg))), (0, .ref o), (1, .int i0), (2, .int i1), (3, .int i2)]) hx hb dX1_inverse_26 hl (by decide) rfl (fun ls hl => ?_)
  refine lv_iload hx hb dX1_inverse_28 (lv_at hl 0 rfl) ?_
  refine lv_sipush (v := 128) hx hb dX1_inverse_30 (by decide) ?_
  refine lv_icmp_ne (tgt := 46) hx hb dX1_inverse_33 (by decide) (fun c_33 => ?_) (fun c_33 => absurd c_33 (show ¬ (((f_iv (hf i1.toNatClampNeg) (hf i2.toNatClampNeg)) : Int32) = 128) from gi))
  refine lv_aload_n hx hb dX1_inverse_46 rfl (lv_at hl 1 rfl) ?_
  refine lv_iload_n hx hb dX1_inverse_47 rfl (lv_at hl 2 rfl) ?_
  refine lv_iload hx hb dX1_inverse_48 (lv_at hl 0 rfl) ?_
  refine lv_iconst (v := 0) hx hb dX1_inverse_50 (by decide) ?_
  refine ny_l (wc := [(o, .inr (3, [.ref q1, .ref q2, .ref q3, .ref q4])), (q1, .inl (cI, 12, .inl hf)), (q2, .inl (cZ, 12, .inl bf))]) (wr := [(q4, .inr (2, [.ref q6, .int (nI (f_ln (hf i1.toNatClampNeg) (hf i2.toNatClampNeg))), .int (f_la (hf i1.toNatClampNeg) (hf i2.toNatClampNeg)), .int 1])), (q6, .inl (cI, 7, .inl (f_row sr (hf i1.toNatClampNeg) (hf i2.toNatClampNeg) (f_ln (hf i1.toNatClampNeg) (hf i2.toNatClampNeg)))))]) hP hD hS hA [2, 0, 1] [3, 4] rfl rfl (by decide) (by decide) (va_runV (As := [.int i0, .int (f_iv (hf i1.toNatClampNeg) (hf i2.toNatClampNeg)), .int 0]) (rest := []) ⟨hx, hb, hml, hown, hts⟩ (c_X1_keep l D cI cZ o q1 q2 q3 q4 H.size hf bf i0 (f_iv (hf i1.toNatClampNeg) (hf i2.toNatClampNeg)) 0 (by assumption) (n_R_iv gi) (Or.inl rfl)) (cwV 3 hts gX1_inverse_X1_keep rfl rfl rfl (by decide +kernel) ⟨Nat.le_of_ble_eq_true rfl, Nat.le_of_ble_eq_true rfl⟩) ⟨ny_blind, va_recv hK hP (ci := 3) (q0 := 2) rfl rfl, fun U hU hW => ⟨rfl, ny_preU hE hP hK hD hS hA [2, 0, 1] rfl (by decide) rfl [0, 1] rfl U hU hW⟩⟩ rfl rfl hl.1 rfl (lv_room (Nat.le_of_ble_eq_true rfl)) dX1_inverse_51 ⟨Nat.le_of_ble_eq_true rfl, Nat.le_of_ble_eq_true rfl⟩) (fun r_51 u H locs hw_51 hP hD hS => ?_)
  have hP : va_P D vwCl [(q4, .inr (2, [.ref q6, .int (nI (f_ln (hf i1.toNatClampNeg) (hf i2.toNatClampNeg))), .int (f_la (hf i1.toNatClampNeg) (hf i2.toNatClampNeg)), .int 1])), (q6, .inl (cI, 7, .inl (f_row sr (hf i1.toNatClampNeg) (hf i2.toNatClampNeg) (f_ln (hf i1.toNatClampNeg) (hf i2.toNatClampNeg))))), (o, .inr (3, [.ref q1, .ref q2, .ref q3, .ref q4])), (q1, .inl (cI, 12, .inl (upd hf i0.toNatClampNeg (f_iv (hf i1.toNatClampNeg) (hf i2.toNatClampNeg))))), (q2, .inl (cZ, 12, .inl (upd bf i0.toNatClampNeg 0)))] H := hP
  have hD : va_D A [(q4, .inr (2, [.ref q6, .int (nI (f_ln (hf i1.toNatClampNeg) (hf i2.toNatClampNeg))), .int (f_la (hf i1.toNatClampNeg) (hf i2.toNatClampNeg)), .int 1])), (q6, .inl (cI, 7, .inl (f_row sr (hf i1.toNatClampNeg) (hf i2.toNatClampNeg) (f_ln (hf i1.toNatClampNeg) (hf i2.toNatClampNeg))))), (o, .inr (3, [.ref q1, .ref q2, .ref q3, .ref q4])), (q1, .inl (cI, 12, .inl (upd hf i0.toNatClampNeg (f_iv (hf i1.toNatClampNeg) (hf i2.toNatClampNeg))))), (q2, .inl (cZ, 12, .inl (upd bf i0.toNatClampNeg 0)))] := hD
  have hw_51 : r_51 = f_bt (f_iv (hf i1.toNatClampNeg) (hf i2.toNatClampNeg)) 0 := hw_51
  subst hw_51
  have hP9 := hP.sub (ws' := [(o, .inr (3, [.ref q1, .ref q2, .ref q3, .ref q4])), (q1, .inl (cI, 12, .inl (upd hf i0.toNatClampNeg (f_iv (hf i1.toNatClampNeg) (hf i2.toNatClampNeg))))), (q2, .inl (cZ, 12, .inl (upd bf i0.toNatClampNeg 0))), (q4, .inr (2, [.ref q6, .int (nI (f_ln (hf i1.toNatClampNeg) (hf i2.toNatClampNeg))), .int (f_la (hf i1.toNatClampNeg) (hf i2.toNatClampNeg)), .int 1])), (q6, .inl (cI, 7, .inl (f_row sr (hf i1.toNatClampNeg) (hf i2.toNatClampNeg) (f_ln (hf i1.toNatClampNeg) (hf i2.toNatClampNeg)))))]) [2, 3, 4, 0, 1] rfl
  have hD9 := hD.sub (ws' := [(o, .inr (3, [.ref q1, .ref q2, .ref q3, .ref q4])), (q1, .inl (cI, 12, .inl (upd hf i0.toNatClampNeg (f_iv (hf i1.toNatClampNeg) (hf i2.toNatClampNeg))))), (q2, .inl (cZ, 12, .inl (upd bf i0.toNatClampNeg 0))), (q4, .inr (2, [.ref q6, .int (nI (f_ln (hf i1.toNatClampNeg) (hf i2.toNatClampNeg))), .int (f_la (hf i1.toNatClampNeg) (hf i2.toNatClampNeg)), .int 1])), (q6, .inl (cI, 7, .inl (f_row sr (hf i1.toNatClampNeg) (hf i2.toNatClampNeg) (f_ln (hf i1.toNatClampNeg) (hf i2.toNatClampNeg)))))]) [2, 3, 4, 0, 1] (by decide) rfl
  exact W.lret (v := f_bt (f_iv (hf i1.toNatClampNeg) (hf i2.toNatClampNeg)) 0) hx hb hr (fun t ht hW => ⟨⟨f_bt (f_iv (hf i1.toNatClampNeg) (hf i2.toNatClampNeg)) 0, (), rfl, (rfl), by rw [ht]; exact hP9, va_K.moved hW.alike hK, hD9⟩, hS.F ht⟩) hS.2.2 dX1_inverse_54
set_option maxHeartbeats 4000000 in
set_option maxRecDepth 100000 in
theorem c_X1_inverse_noP (l : Launch) (D : va_G) (cI : ClassId) (cZ : ClassId) (o : Nat) (q1 : Nat) (q2 : Nat) (q3 : Nat) (q4 : Nat) (sz : Nat) (hf : Nat → Int32) (bf : Nat → Int32) (i0 : Int32) (i1 : Int32) (i2 : Int32) (gl : l.stackTraces = false) (gb : ¬ vp_in i0 12 ∨ (¬ vp_in i1 12 ∨ ¬ vp_in i2 12)) : vx_Met l yX1_inverse wsX1_inverse ({ frames := 8, cells := 1, slots := 6, locals := 132 }) (va_Pc [.ref o, .int i0, .int i1, .int i2] (ny_pre D [(cI, .int), (cZ, .boolean)] [(o, .inr (3, [.ref q1, .ref q2, .ref q3, .ref q4])), (q1, .inl (cI, 12, .inl hf)), (q2, .inl (cZ, 12, .inl bf))] sz)) (fun _ _ _ _ => False) (vx_X (fun _ : Unit => True) (fun E' _ _ => E' = ny_IO) (fun _ => False)) 1 6 (va_A [(o, .inr (3, [.ref q1, .ref q2, .ref q3, .ref q4])), (q1, .inl (cI, 12, .inl hf)), (q2, .inl (cZ, 12, .inl bf))] sz) := by
  refine vx_ofW (cc := cX1_inverse) (maxL := 5) (ret := (some .long)) (by decide) rfl ?_
  intro p e s m args below meth c s₁ B hml ht hv
  obtain ⟨rfl, hsz, hP, hK, hD0, hE⟩ := hv
  have hx := B.exec
  have hb := B.bytes
  have hr := B.returns
  have hts := atoms_spec (ws := wsX1_inverse) B.pre
  have hown : s.vm.findClass RX1 = some m.cls := findClass_of_methodNamed B.named
  have hlocks := B.notSynchronized
  subst hsz
  have hD := hD0.self (sz := s.heap.size)
  generalize hAe : va_A [(o, .inr (3, [.ref q1, .ref q2, .ref q3, .ref q4])), (q1, .inl (cI, 12, .inl hf)), (q2, .inl (cZ, 12, .inl bf))] s.heap.size = A at hD hE ⊢
  have hA : ∀ q : Nat, s.heap.size ≤ q → A q := fun q h => by rw [← hAe]; exact Or.inr h
  have hS : va_S A s.heap s.heap [] := va_S.rf
  have hl := lv_entry ([.ref o, .int i0, .int i1, .int i2]) (n := 5) (Nat.le_of_ble_eq_true rfl)
  rw [lg_entry_eq]
  generalize (lg_sl ([.ref o, .int i0, .int i1, .int i2]) ++ List.replicate (5 - (lg_sl ([.ref o, .int i0, .int i1, .int i2])).length) Slot.unset).toArray = ls at hl ⊢
  have hl : lv_has ls 5 [(0, .ref o), (1, .int i0), (2, .int i1), (3, .int i2)] := hl
  refine lv_iload_n hx hb dX1_inverse_0 rfl (lv_at hl 1 rfl) ?_
  by_cases q_1 : vp_in i0 12
  · have gb := gb.resolve_left (fun h => h q_1)
    refine va_csv (va_Run.run (va_runS (As := [.int i0]) (rest := []) ⟨hx, hb, hml, hown, hts⟩ (c_X1_needPlace l i0 (by assumption)) (va_cwS 1 hts gX1_inverse_X1_needPlace rfl rfl rfl (by decide +kernel) ⟨Nat.le_of_ble_eq_true rfl, Nat.le_of_ble_eq_true rfl⟩) ⟨ny_blindT, fun U hU hW => ⟨rfl, trivial⟩⟩ rfl rfl hl.1 rfl (lv_room (Nat.le_of_ble_eq_true rfl)) dX1_inverse_1 ⟨Nat.le_of_ble_eq_true rfl, Nat.le_of_ble_eq_true rfl⟩)) (fun hw => ?_)
    refine lv_aload_n hx hb dX1_inverse_4 rfl (lv_at hl 0 rfl) ?_
    refine lv_iload_n hx hb dX1_inverse_5 rfl (lv_at hl 2 rfl) ?_
    refine lv_iload_n hx hb dX1_inverse_6 rfl (lv_at hl 3 rfl) ?_
    exact ny_th hS (va_free (wc := [(o, .inr (3, [.ref q1, .ref q2, .ref q3, .ref q4])), (q1, .inl (cI, 12, .inl hf)), (q2, .inl (cZ, 12, .inl bf))]) hD hS hA [0, 1, 2] rfl) ht hlocks (Nat.le_of_ble_eq_true rfl) (Nat.le_of_ble_eq_true rfl) (vx_runV (As := [.int i1, .int i2]) (rest := []) ⟨hx, hb, hml, hown, hts⟩ (c_X1_needDivision_noP l D cI cZ o q1 q2 q3 q4 s.heap.size hf bf i1 i2 (by assumption) (by assumption)) (cwV 2 hts gX1_inverse_X1_needDivision rfl rfl rfl (by decide +kernel) ⟨Nat.le_of_ble_eq_true rfl, Nat.le_of_ble_eq_true rfl⟩) ⟨ny_blind, va_recv hK hP (ci := 3) (q0 := 0) rfl rfl, fun U hU hW => ⟨rfl, ny_preU hE hP hK hD hS hA [0, 1, 2] rfl (by decide) rfl [0, 1] rfl U hU hW⟩⟩ rfl rfl hl.1 rfl (lv_room (Nat.le_of_ble_eq_true rfl)) dX1_inverse_7 ⟨Nat.le_of_ble_eq_true rfl, Nat.le_of_ble_eq_true rfl⟩)
  · exact ny_th hS (va_free (wc := []) hD hS hA [] rfl) ht hlocks (Nat.le_of_ble_eq_true rfl) (Nat.le_of_ble_eq_true rfl) (vx_runS (As := [.int i0]) (rest := []) ⟨hx, hb, hml, hown, hts⟩ (c_X1_needPlace_no l D s.heap.size i0 (by assumption) (by assumption)) (va_cwS 1 hts gX1_inverse_X1_needPlace rfl rfl rfl (by decide +kernel) ⟨Nat.le_of_ble_eq_true rfl, Nat.le_of_ble_eq_true rfl⟩) ⟨ny_blind, fun U hU hW => ⟨rfl, ny_preU hE hP hK hD hS hA [] rfl (by decide) rfl [] rfl U hU hW⟩⟩ rfl rfl hl.1 rfl (lv_room (Nat.le_of_ble_eq_true rfl)) dX1_inverse_1 ⟨Nat.le_of_ble_eq_true rfl, Nat.le_of_ble_eq_true rfl⟩)
set_option maxHeartbeats 4000000 in
set_option maxRecDepth 100000 in
theorem c_X1_inverse_no0 (l : Launch) (D : va_G) (cI : ClassId) (cZ : ClassId) (o : Nat) (q1 : Nat) (q2 : Nat) (q3 : Nat) (q4 : Nat) (sz : Nat) (hf : Nat → Int32) (bf : Nat → Int32) (i0 : Int32) (i1 : Int32) (i2 : Int32) (gl : l.stackTraces = false) (gp0 : vp_in i0 12) (gp1 : vp_in i1 12) (gp2 : vp_in i2 12) (g0 : hf i2.toNatClampNeg = 0) : vx_Met l yX1_inverse wsX1_inverse ({ frames := 7, cells := 1, slots := 6, locals := 112 }) (va_Pc [.ref o, .int i0, .int i1, .int i2] (ny_pre D [(cI, .int), (cZ, .boolean)] [(o, .inr (3, [.ref q1, .ref q2, .ref q3, .ref q4])), (q1, .inl (cI, 12, .inl hf)), (q2, .inl (cZ, 12, .inl bf))] sz)) (fun _ _ _ _ => False) (vx_X (fun _ : Unit => True) (fun E' _ _ => E' = ny_AE) (fun _ => False)) 1 6 (va_A [(o, .inr (3, [.ref q1, .ref q2, .ref q3, .ref q4])), (q1, .inl (cI, 12, .inl hf)), (q2, .inl (cZ, 12, .inl bf))] sz) := by
  refine vx_ofW (cc := cX1_inverse) (maxL := 5) (ret := (some .long)) (by decide) rfl ?_
  intro p e s m args below meth c s₁ B hml ht hv
  obtain ⟨rfl, hsz, hP, hK, hD0, hE⟩ := hv
  have hx := B.exec
  have hb := B.bytes
  have hr := B.returns
  have hts := atoms_spec (ws := wsX1_inverse) B.pre
  have hown : s.vm.findClass RX1 = some m.cls := findClass_of_methodNamed B.named
  have hlocks := B.notSynchronized
  subst hsz
  have hD := hD0.self (sz := s.heap.size)
  generalize hAe : va_A [(o, .inr (3, [.ref q1, .ref q2, .ref q3, .ref q4])), (q1, .inl (cI, 12, .inl hf)), (q2, .inl (cZ, 12, .inl bf))] s.heap.size = A at hD hE ⊢
  have hA : ∀ q : Nat, s.heap.size ≤ q → A q := fun q h => by rw [← hAe]; exact Or.inr h
  have hS : va_S A s.heap s.heap [] := va_S.rf
  have hl := lv_entry ([.ref o, .int i0, .int i1, .int i2]) (n := 5) (Nat.le_of_ble_eq_true rfl)
  rw [lg_entry_eq]
  generalize (lg_sl ([.ref o, .int i0, .int i1, .int i2]) ++ List.replicate (5 - (lg_sl ([.ref o, .int i0, .int i1, .int i2])).length) Slot.unset).toArray = ls at hl ⊢
  have hl : lv_has ls 5 [(0, .ref o), (1, .int i0), (2, .int i1), (3, .int i2)] := hl
  refine lv_iload_n hx hb dX1_inverse_0 rfl (lv_at hl 1 rfl) ?_
  refine va_csv (va_Run.run (va_runS (As := [.int i0]) (rest := []) ⟨hx, hb, hml, hown, hts⟩ (c_X1_needPlace l i0 (by assumption)) (va_cwS 1 hts gX1_inverse_X1_needPlace rfl rfl rfl (by decide +kernel) ⟨Nat.le_of_ble_eq_true rfl, Nat.le_of_ble_eq_true rfl⟩) ⟨ny_blindT, fun U hU hW => ⟨rfl, trivial⟩⟩ rfl rfl hl.1 rfl (lv_room (Nat.le_of_ble_eq_true rfl)) dX1_inverse_1 ⟨Nat.le_of_ble_eq_true rfl, Nat.le_of_ble_eq_true rfl⟩)) (fun hw => ?_)
  refine lv_aload_n hx hb dX1_inverse_4 rfl (lv_at hl 0 rfl) ?_
  refine lv_iload_n hx hb dX1_inverse_5 rfl (lv_at hl 2 rfl) ?_
  refine lv_iload_n hx hb dX1_inverse_6 rfl (lv_at hl 3 rfl) ?_
  exact ny_th hS (va_free (wc := [(o, .inr (3, [.ref q1, .ref q2, .ref q3, .ref q4])), (q1, .inl (cI, 12, .inl hf)), (q2, .inl (cZ, 12, .inl bf))]) hD hS hA [0, 1, 2] rfl) ht hlocks (Nat.le_of_ble_eq_true rfl) (Nat.le_of_ble_eq_true rfl) (vx_runV (As := [.int i1, .int i2]) (rest := []) ⟨hx, hb, hml, hown, hts⟩ (c_X1_needDivision_no0 l D cI cZ o q1 q2 q3 q4 s.heap.size hf bf i1 i2 (by assumption) (by assumption) (by assumption) (by assumption)) (cwV 2 hts gX1_inverse_X1_needDivision rfl rfl rfl (by decide +kernel) ⟨Nat.le_of_ble_eq_true rfl, Nat.le_of_ble_eq_true rfl⟩) ⟨ny_blind, va_recv hK hP (ci := 3) (q0 := 0) rfl rfl, fun U hU hW => ⟨rfl, ny_preU hE hP hK hD hS hA [0, 1, 2] rfl (by decide) rfl [0, 1] rfl U hU hW⟩⟩ rfl rfl hl.1 rfl (lv_room (Nat.le_of_ble_eq_true rfl)) dX1_inverse_7 ⟨Nat.le_of_ble_eq_true rfl, Nat.le_of_ble_eq_true rfl⟩)
set_option maxHeartbeats 4000000 in
set_option maxRecDepth 100000 in
theorem c_X1_inverse_noI (l : Launch) (D : va_G) (cI : ClassId) (cZ : ClassId) (o : Nat) (q1 : Nat) (q2 : Nat) (q3 : Nat) (q4 : Nat) (sz : Nat) (hf : Nat → Int32) (bf : Nat → Int32) (q6 : Nat) (sr : Nat → Int32) (sc : Int32) (sl : Int32) (se : Int32) (i0 : Int32) (i1 : Int32) (i2 : Int32) (gl : l.stackTraces = false) (gp0 : vp_in i0 12) (gp1 : vp_in i1 12) (gp2 : vp_in i2 12) (g0 : ¬ hf i2.toNatClampNeg = 0) (gH : ny_H hf) (gi : f_iv (hf i1.toNatClampNeg) (hf i2.toNatClampNeg) = 128) : vx_Met l yX1_inverse wsX1_inverse ({ frames := 6, cells := 1, slots := 6, locals := 97 }) (va_Pc [.ref o, .int i0, .int i1, .int i2] (ny_pre D [(cI, .int), (cZ, .boolean)] [(o, .inr (3, [.ref q1, .ref q2, .ref q3, .ref q4])), (q1, .inl (cI, 12, .inl hf)), (q2, .inl (cZ, 12, .inl bf)), (q4, .inr (2, [.ref q6, .int sc, .int sl, .int se])), (q6, .inl (cI, 7, .inl sr))] sz)) (fun _ _ _ _ => False) (vx_X (fun u : Unit => True) (fun E' u t => E' = ny_AE ∧ ny_at D [(cI, .int), (cZ, .boolean)] (va_A [(o, .inr (3, [.ref q1, .ref q2, .ref q3, .ref q4])), (q1, .inl (cI, 12, .inl hf)), (q2, .inl (cZ, 12, .inl bf)), (q4, .inr (2, [.ref q6, .int sc, .int sl, .int se])), (q6, .inl (cI, 7, .inl sr))] sz) [(o, .inr (3, [.ref q1, .ref q2, .ref q3, .ref q4])), (q1, .inl (cI, 12, .inl hf)), (q2, .inl (cZ, 12, .inl bf)), (q4, .inr (2, [.ref q6, .int (nI (f_ln (hf i1.toNatClampNeg) (hf i2.toNatClampNeg))), .int (f_la (hf i1.toNatClampNeg) (hf i2.toNatClampNeg)), .int 1])), (q6, .inl (cI, 7, .inl (f_row sr (hf i1.toNatClampNeg) (hf i2.toNatClampNeg) (f_ln (hf i1.toNatClampNeg) (hf i2.toNatClampNeg)))))] t) (va_A [(o, .inr (3, [.ref q1, .ref q2, .ref q3, .ref q4])), (q1, .inl (cI, 12, .inl hf)), (q2, .inl (cZ, 12, .inl bf)), (q4, .inr (2, [.ref q6, .int sc, .int sl, .int se])), (q6, .inl (cI, 7, .inl sr))] sz)) 1 6 (va_A [(o, .inr (3, [.ref q1, .ref q2, .ref q3, .ref q4])), (q1, .inl (cI, 12, .inl hf)), (q2, .inl (cZ, 12, .inl bf)), (q4, .inr (2, [.ref q6, .int sc, .int sl, .int se])), (q6, .inl (cI, 7, .inl sr))] sz) := by
  refine vx_ofW (cc := cX1_inverse) (maxL := 5) (ret := (some .long)) (by decide) rfl ?_
  intro p e s m args below meth c s₁ B hml ht hv
  obtain ⟨rfl, hsz, hP, hK, hD0, hE⟩ := hv
  have hx := B.exec
  have hb := B.bytes
  have hr := B.returns
  have hts := atoms_spec (ws := wsX1_inverse) B.pre
  have hown : s.vm.findClass RX1 = some m.cls := findClass_of_methodNamed B.named
  have hlocks := B.notSynchronized
  subst hsz
  have hD := hD0.self (sz := s.heap.size)
  generalize hAe : va_A [(o, .inr (3, [.ref q1, .ref q2, .ref q3, .ref q4])), (q1, .inl (cI, 12, .inl hf)), (q2, .inl (cZ, 12, .inl bf)), (q4, .inr (2, [.ref q6, .int sc, .int sl, .int se])), (q6, .inl (cI, 7, .inl sr))] s.heap.size = A at hD hE ⊢
  have hA : ∀ q : Nat, s.heap.size ≤ q → A q := fun q h => by rw [← hAe]; exact Or.inr h
  have hS : va_S A s.heap s.heap [] := va_S.rf
  have hl := lv_entry ([.ref o, .int i0, .int i1, .int i2]) (n := 5) (Nat.le_of_ble_eq_true rfl)
  rw [lg_entry_eq]
  generalize (lg_sl ([.ref o, .int i0, .int i1, .int i2]) ++ List.replicate (5 - (lg_sl ([.ref o, .int i0, .int i1, .int i2])).length) Slot.unset).toArray = ls at hl ⊢
  have hl : lv_has ls 5 [(0, .ref o), (1, .int i0), (2, .int i1), (3, .int i2)] := hl
  refine lv_iload_n hx hb dX1_inverse_0 rfl (lv_at hl 1 rfl) ?_
  refine va_csv (va_Run.run (va_runS (As := [.int i0]) (rest := []) ⟨hx, hb, hml, hown, hts⟩ (c_X1_needPlace l i0 (by assumption)) (va_cwS 1 hts gX1_inverse_X1_needPlace rfl rfl rfl (by decide +kernel) ⟨Nat.le_of_ble_eq_true rfl, Nat.le_of_ble_eq_true rfl⟩) ⟨ny_blindT, fun U hU hW => ⟨rfl, trivial⟩⟩ rfl rfl hl.1 rfl (lv_room (Nat.le_of_ble_eq_true rfl)) dX1_inverse_1 ⟨Nat.le_of_ble_eq_true rfl, Nat.le_of_ble_eq_true rfl⟩)) (fun hw => ?_)
  refine lv_aload_n hx hb dX1_inverse_4 rfl (lv_at hl 0 rfl) ?_
  refine lv_iload_n hx hb dX1_inverse_5 rfl (lv_at hl 2 rfl) ?_
  refine lv_iload_n hx hb dX1_inverse_6 rfl (lv_at hl 3 rfl) ?_
  refine va_csv (va_Run.run (va_runV (As := [.int i1, .int i2]) (rest := []) ⟨hx, hb, hml, hown, hts⟩ (c_X1_needDivision l D cI cZ o q1 q2 q3 q4 s.heap.size hf bf i1 i2 (by assumption) (by assumption) (by assumption)) (cwV 2 hts gX1_inverse_X1_needDivision rfl rfl rfl (by decide +kernel) ⟨Nat.le_of_ble_eq_true rfl, Nat.le_of_ble_eq_true rfl⟩) ⟨ny_blind, va_recv hK hP (ci := 3) (q0 := 0) rfl rfl, fun U hU hW => ⟨rfl, ny_preU hE hP hK hD hS hA [0, 1, 2] rfl (by decide) rfl [0, 1] rfl U hU hW⟩⟩ rfl rfl hl.1 rfl (lv_room (Nat.le_of_ble_eq_true rfl)) dX1_inverse_7 ⟨Nat.le_of_ble_eq_true rfl, Nat.le_of_ble_eq_true rfl⟩)) (fun hw => ?_)
  refine lv_aload_n hx hb dX1_inverse_10 rfl (lv_at hl 0 rfl) ?_
  refine lv_aload_n hx hb dX1_inverse_11 rfl (lv_at hl 0 rfl) ?_
  refine va_get (D := D) (ci := 3) (v := .ref q1) (C := RX1) (T := TX1) (N := 4) hx hb hts in_X1_inverse_X1 hown hK hP 0 rfl rfl 0 (by decide) (hts (.fieldLink RX1 9 "Nearestclock" "held" "[I") (List.mem_of_getElem? (i := 3) rfl)) (fun _ h9 => h9) rfl dX1_inverse_12 ?_
  refine lv_iload_n hx hb dX1_inverse_15 rfl (lv_at hl 2 rfl) ?_
  refine va_iald hx hb hK hP 1 0 rfl rfl (by assumption) dX1_inverse_16 ?_
  refine lv_aload_n hx hb dX1_inverse_17 rfl (lv_at hl 0 rfl) ?_
  refine va_get (D := D) (ci := 3) (v := .ref q1) (C := RX1) (T := TX1) (N := 4) hx hb hts in_X1_inverse_X1 hown hK hP 0 rfl rfl 0 (by decide) (hts (.fieldLink RX1 9 "Nearestclock" "held" "[I") (List.mem_of_getElem? (i := 3) rfl)) (fun _ h9 => h9) rfl dX1_inverse_18 ?_
  refine lv_iload_n hx hb dX1_inverse_21 rfl (lv_at hl 3 rfl) ?_
  refine va_iald hx hb hK hP 1 0 rfl rfl (by assumption) dX1_inverse_22 ?_
  refine ny_i (wc := [(o, .inr (3, [.ref q1, .ref q2, .ref q3, .ref q4])), (q4, .inr (2, [.ref q6, .int sc, .int sl, .int se])), (q6, .inl (cI, 7, .inl sr))]) (wr := [(q1, .inl (cI, 12, .inl hf)), (q2, .inl (cZ, 12, .inl bf))]) hP hD hS hA [0, 3, 4] [1, 2] rfl rfl (by decide) (by decide) (va_runV (As := [.int (hf i1.toNatClampNeg), .int (hf i2.toNatClampNeg)]) (rest := []) ⟨hx, hb, hml, hown, hts⟩ (c_X1_inverseOf l D cI o q1 q2 q3 q4 q6 s.heap.size sr sc sl se (hf i1.toNatClampNeg) (hf i2.toNatClampNeg) (gH _ (n_ix gp1)) (gH _ (n_ix gp2)) (by assumption)) (cwV 2 hts gX1_inverse_X1_inverseOf rfl rfl rfl (by decide +kernel) ⟨Nat.le_of_ble_eq_true rfl, Nat.le_of_ble_eq_true rfl⟩) ⟨ny_blind, va_recv hK hP (ci := 3) (q0 := 0) rfl rfl, fun U hU hW => ⟨rfl, ny_preU hE hP hK hD hS hA [0, 3, 4] rfl (by decide) rfl [0] rfl U hU hW⟩⟩ rfl rfl hl.1 rfl (lv_room (Nat.le_of_ble_eq_true rfl)) dX1_inverse_23 ⟨Nat.le_of_ble_eq_true rfl, Nat.le_of_ble_eq_true rfl⟩) (fun r_23 u H locs hw_23 hP hD hS => ?_)
  have hP : va_P D vwCl [(q1, .inl (cI, 12, .inl hf)), (q2, .inl (cZ, 12, .inl bf)), (o, .inr (3, [.ref q1, .ref q2, .ref q3, .ref q4])), (q4, .inr (2, [.ref q6, .int (nI (f_ln (hf i1.toNatClampNeg) (hf i2.toNatClampNeg))), .int (f_la (hf i1.toNatClampNeg) (hf i2.toNatClampNeg)), .int 1])), (q6, .inl (cI, 7, .inl (f_row sr (hf i1.toNatClampNeg) (hf i2.toNatClampNeg) (f_ln (hf i1.toNatClampNeg) (hf i2.toNatClampNeg)))))] H := hP
  have hD : va_D A [(q1, .inl (cI, 12, .inl hf)), (q2, .inl (cZ, 12, .inl bf)), (o, .inr (3, [.ref q1, .ref q2, .ref q3, .ref q4])), (q4, .inr (2, [.ref q6, .int (nI (f_ln (hf i1.toNatClampNeg) (hf i2.toNatClampNeg))), .int (f_la (hf i1.toNatClampNeg) (hf i2.toNatClampNeg)), .int 1])), (q6, .inl (cI, 7, .inl (f_row sr (hf i1.toNatClampNeg) (hf i2.toNatClampNeg) (f_ln (hf i1.toNatClampNeg) (hf i2.toNatClampNeg)))))] := hD
  have hw_23 : r_23 = f_iv (hf i1.toNatClampNeg) (hf i2.toNatClampNeg) := hw_23
  subst hw_23
  refine lv_istore (lv' := [(4, .int (f_iv (hf i1.toNatClampNeg) (hf i2.toNatClampNeg))), (0, .ref o), (1, .int i0), (2, .int i1), (3, .int i2)]) hx hb dX1_inverse_26 hl (by decide) rfl (fun ls hl => ?_)
  refine lv_iload hx hb dX1_inverse_28 (lv_at hl 0 rfl) ?_
  refine lv_sipush (v := 128) hx hb dX1_inverse_30 (by decide) ?_
  refine lv_icmp_ne (tgt := 46) hx hb dX1_inverse_33 (by decide) (fun c_33 => absurd (show ((f_iv (hf i1.toNatClampNeg) (hf i2.toNatClampNeg)) : Int32) = 128 from gi) c_33) (fun c_33 => ?_)
  have hP9 := hP.sub (ws' := [(o, .inr (3, [.ref q1, .ref q2, .ref q3, .ref q4])), (q1, .inl (cI, 12, .inl hf)), (q2, .inl (cZ, 12, .inl bf)), (q4, .inr (2, [.ref q6, .int (nI (f_ln (hf i1.toNatClampNeg) (hf i2.toNatClampNeg))), .int (f_la (hf i1.toNatClampNeg) (hf i2.toNatClampNeg)), .int 1])), (q6, .inl (cI, 7, .inl (f_row sr (hf i1.toNatClampNeg) (hf i2.toNatClampNeg) (f_ln (hf i1.toNatClampNeg) (hf i2.toNatClampNeg)))))]) [2, 0, 1, 3, 4] rfl
  have hD9 := hD.sub (ws' := [(o, .inr (3, [.ref q1, .ref q2, .ref q3, .ref q4])), (q1, .inl (cI, 12, .inl hf)), (q2, .inl (cZ, 12, .inl bf)), (q4, .inr (2, [.ref q6, .int (nI (f_ln (hf i1.toNatClampNeg) (hf i2.toNatClampNeg))), .int (f_la (hf i1.toNatClampNeg) (hf i2.toNatClampNeg)), .int 1])), (q6, .inl (cI, 7, .inl (f_row sr (hf i1.toNatClampNeg) (hf i2.toNatClampNeg) (f_ln (hf i1.toNatClampNeg) (hf i2.toNatClampNeg)))))]) [2, 0, 1, 3, 4] (by decide) rfl
  exact ny_throwW (cls := ny_AE) (ws := [(o, .inr (3, [.ref q1, .ref q2, .ref q3, .ref q4])), (q1, .inl (cI, 12, .inl hf)), (q2, .inl (cZ, 12, .inl bf)), (q4, .inr (2, [.ref q6, .int (nI (f_ln (hf i1.toNatClampNeg) (hf i2.toNatClampNeg))), .int (f_la (hf i1.toNatClampNeg) (hf i2.toNatClampNeg)), .int 1])), (q6, .inl (cI, 7, .inl (f_row sr (hf i1.toNatClampNeg) (hf i2.toNatClampNeg) (f_ln (hf i1.toNatClampNeg) (hf i2.toNatClampNeg)))))]) hx hb gl hown (by decide) (hts (.classLink RX1 95 "java/lang/ArithmeticException") (List.mem_of_getElem? (i := 1) rfl)) (hts (.initialized "java/lang/ArithmeticException") (List.mem_of_getElem? (i := 2) rfl)) hE (List.mem_of_getElem? (i := 4) rfl) (List.mem_of_getElem? (i := 2) rfl) (fun w h => hts w ((fun _ h => List.mem_cons_of_mem _ (List.mem_append_left _ (List.mem_append_left _ (List.mem_append_right _ h)))) w h)) ny_b99 ny_h99 hP9 hK hD9 hS (hl.1.trans hml.symm) dX1_inverse_36 dX1_inverse_39 dX1_inverse_40 dX1_inverse_42 dX1_inverse_45 ht (Nat.le_of_ble_eq_true rfl) (Nat.le_of_ble_eq_true rfl) (Nat.le_of_ble_eq_true rfl) (Nat.le_of_ble_eq_true rfl) hlocks (Nat.le_of_ble_eq_true rfl) (Nat.le_of_ble_eq_true rfl)
theorem in_X1_order_X1 : ∀ w ∈ wsX10, w ∈ wsX1_order := (fun _ h => List.mem_cons_of_mem _ (List.mem_append_left _ (List.mem_append_left _ (List.mem_append_left _ (List.mem_append_left _ (List.mem_append_left _ (List.mem_append_right _ h)))))))
set_option maxHeartbeats 4000000 in
set_option maxRecDepth 100000 in
theorem c_X1_order (l : Launch) (D : va_G) (cI : ClassId) (cZ : ClassId) (o : Nat) (q1 : Nat) (q2 : Nat) (q3 : Nat) (q4 : Nat) (sz : Nat) (hf : Nat → Int32) (bf : Nat → Int32) (q6 : Nat) (sr : Nat → Int32) (sc : Int32) (sl : Int32) (se : Int32) (i0 : Int32) (i1 : Int32) (gp0 : vp_in i0 12) (gp1 : vp_in i1 12) (g0 : ¬ hf i1.toNatClampNeg = 0) (gH : ny_H hf) : Met l yX1_order wsX1_order ({ frames := 4, cells := 0, slots := 0, locals := 95 }) (va_Pc [.ref o, .int i0, .int i1] (ny_pre D [(cI, .int), (cZ, .boolean)] [(o, .inr (3, [.ref q1, .ref q2, .ref q3, .ref q4])), (q1, .inl (cI, 12, .inl hf)), (q2, .inl (cZ, 12, .inl bf)), (q4, .inr (2, [.ref q6, .int sc, .int sl, .int se])), (q6, .inl (cI, 7, .inl sr))] sz)) (va_Qi (fun (r : Int32) (u : Unit) => r = ny_ab (hf i1.toNatClampNeg / f_gd (hf i0.toNatClampNeg) (hf i1.toNatClampNeg))) (fun (u : Unit) t => ny_at D [(cI, .int), (cZ, .boolean)] (va_A [(o, .inr (3, [.ref q1, .ref q2, .ref q3, .ref q4])), (q1, .inl (cI, 12, .inl hf)), (q2, .inl (cZ, 12, .inl bf)), (q4, .inr (2, [.ref q6, .int sc, .int sl, .int se])), (q6, .inl (cI, 7, .inl sr))] sz) [(o, .inr (3, [.ref q1, .ref q2, .ref q3, .ref q4])), (q1, .inl (cI, 12, .inl hf)), (q2, .inl (cZ, 12, .inl bf)), (q4, .inr (2, [.ref q6, .int (nI (f_ln (hf i0.toNatClampNeg) (hf i1.toNatClampNeg))), .int (f_la (hf i0.toNatClampNeg) (hf i1.toNatClampNeg)), .int 1])), (q6, .inl (cI, 7, .inl (f_row sr (hf i0.toNatClampNeg) (hf i1.toNatClampNeg) (f_ln (hf i0.toNatClampNeg) (hf i1.toNatClampNeg)))))] t) (va_A [(o, .inr (3, [.ref q1, .ref q2, .ref q3, .ref q4])), (q1, .inl (cI, 12, .inl hf)), (q2, .inl (cZ, 12, .inl bf)), (q4, .inr (2, [.ref q6, .int sc, .int sl, .int se])), (q6, .inl (cI, 7, .inl sr))] sz)) 0 0 (va_A [(o, .inr (3, [.ref q1, .ref q2, .ref q3, .ref q4])), (q1, .inl (cI, 12, .inl hf)), (q2, .inl (cZ, 12, .inl bf)), (q4, .inr (2, [.ref q6, .int sc, .int sl, .int se])), (q6, .inl (cI, 7, .inl sr))] sz) := by
  refine Met.ofW (cc := cX1_order) (maxL := 3) (ret := (some .int)) (by decide) rfl ?_
  intro p e s m args below meth c s₁ B hml hv
  obtain ⟨rfl, hsz, hP, hK, hD0, hE⟩ := hv
  have hx := B.exec
  have hb := B.bytes
  have hr := B.returns
  have hts := atoms_spec (ws := wsX1_order) B.pre
  have hown : s.vm.findClass RX1 = some m.cls := findClass_of_methodNamed B.named
  have hlocks := B.notSynchronized
  subst hsz
  have hD := hD0.self (sz := s.heap.size)
  generalize hAe : va_A [(o, .inr (3, [.ref q1, .ref q2, .ref q3, .ref q4])), (q1, .inl (cI, 12, .inl hf)), (q2, .inl (cZ, 12, .inl bf)), (q4, .inr (2, [.ref q6, .int sc, .int sl, .int se])), (q6, .inl (cI, 7, .inl sr))] s.heap.size = A at hD hE ⊢
  have hA : ∀ q : Nat, s.heap.size ≤ q → A q := fun q h => by rw [← hAe]; exact Or.inr h
  have hS : va_S A s.heap s.heap [] := va_S.rf
  have hl := lv_entry ([.ref o, .int i0, .int i1]) (n := 3) (Nat.le_of_ble_eq_true rfl)
  rw [lg_entry_eq]
  generalize (lg_sl ([.ref o, .int i0, .int i1]) ++ List.replicate (3 - (lg_sl ([.ref o, .int i0, .int i1])).length) Slot.unset).toArray = ls at hl ⊢
  have hl : lv_has ls 3 [(0, .ref o), (1, .int i0), (2, .int i1)] := hl
  refine lv_aload_n hx hb dX1_order_0 rfl (lv_at hl 0 rfl) ?_
  refine lv_iload_n hx hb dX1_order_1 rfl (lv_at hl 1 rfl) ?_
  refine lv_iload_n hx hb dX1_order_2 rfl (lv_at hl 2 rfl) ?_
  refine va_csv (va_Run.run (va_runV (As := [.int i0, .int i1]) (rest := []) ⟨hx, hb, hml, hown, hts⟩ (c_X1_needDivision l D cI cZ o q1 q2 q3 q4 s.heap.size hf bf i0 i1 (by assumption) (by assumption) (by assumption)) (cwV 2 hts gX1_order_X1_needDivision rfl rfl rfl (by decide +kernel) ⟨Nat.le_of_ble_eq_true rfl, Nat.le_of_ble_eq_true rfl⟩) ⟨ny_blind, va_recv hK hP (ci := 3) (q0 := 0) rfl rfl, fun U hU hW => ⟨rfl, ny_preU hE hP hK hD hS hA [0, 1, 2] rfl (by decide) rfl [0, 1] rfl U hU hW⟩⟩ rfl rfl hl.1 rfl (lv_room (Nat.le_of_ble_eq_true rfl)) dX1_order_3 ⟨Nat.le_of_ble_eq_true rfl, Nat.le_of_ble_eq_true rfl⟩)) (fun hw => ?_)
  refine lv_aload_n hx hb dX1_order_6 rfl (lv_at hl 0 rfl) ?_
  refine va_get (D := D) (ci := 3) (v := .ref q1) (C := RX1) (T := TX1) (N := 4) hx hb hts in_X1_order_X1 hown hK hP 0 rfl rfl 0 (by decide) (hts (.fieldLink RX1 9 "Nearestclock" "held" "[I") (List.mem_of_getElem? (i := 1) rfl)) (fun _ h9 => h9) rfl dX1_order_7 ?_
  refine lv_iload_n hx hb dX1_order_10 rfl (lv_at hl 2 rfl) ?_
  refine va_iald hx hb hK hP 1 0 rfl rfl (by assumption) dX1_order_11 ?_
  refine lv_aload_n hx hb dX1_order_12 rfl (lv_at hl 0 rfl) ?_
  refine lv_aload_n hx hb dX1_order_13 rfl (lv_at hl 0 rfl) ?_
  refine va_get (D := D) (ci := 3) (v := .ref q1) (C := RX1) (T := TX1) (N := 4) hx hb hts in_X1_order_X1 hown hK hP 0 rfl rfl 0 (by decide) (hts (.fieldLink RX1 9 "Nearestclock" "held" "[I") (List.mem_of_getElem? (i := 1) rfl)) (fun _ h9 => h9) rfl dX1_order_14 ?_
  refine lv_iload_n hx hb dX1_order_17 rfl (lv_at hl 1 rfl) ?_
  refine va_iald hx hb hK hP 1 0 rfl rfl (by assumption) dX1_order_18 ?_
  refine lv_aload_n hx hb dX1_order_19 rfl (lv_at hl 0 rfl) ?_
  refine va_get (D := D) (ci := 3) (v := .ref q1) (C := RX1) (T := TX1) (N := 4) hx hb hts in_X1_order_X1 hown hK hP 0 rfl rfl 0 (by decide) (hts (.fieldLink RX1 9 "Nearestclock" "held" "[I") (List.mem_of_getElem? (i := 1) rfl)) (fun _ h9 => h9) rfl dX1_order_20 ?_
  refine lv_iload_n hx hb dX1_order_23 rfl (lv_at hl 2 rfl) ?_
  refine va_iald hx hb hK hP 1 0 rfl rfl (by assumption) dX1_order_24 ?_
  refine ny_i (wc := [(o, .inr (3, [.ref q1, .ref q2, .ref q3, .ref q4])), (q4, .inr (2, [.ref q6, .int sc, .int sl, .int se])), (q6, .inl (cI, 7, .inl sr))]) (wr := [(q1, .inl (cI, 12, .inl hf)), (q2, .inl (cZ, 12, .inl bf))]) hP hD hS hA [0, 3, 4] [1, 2] rfl rfl (by decide) (by decide) (va_runV (As := [.int (hf i0.toNatClampNeg), .int (hf i1.toNatClampNeg)]) (rest := [.int (hf i1.toNatClampNeg)]) ⟨hx, hb, hml, hown, hts⟩ (c_X1_measureOf l D cI o q1 q2 q3 q4 q6 s.heap.size sr sc sl se (hf i0.toNatClampNeg) (hf i1.toNatClampNeg) (gH _ (n_ix gp0)) (gH _ (n_ix gp1))) (cwV 2 hts gX1_order_X1_measureOf rfl rfl rfl (by decide +kernel) ⟨Nat.le_of_ble_eq_true rfl, Nat.le_of_ble_eq_true rfl⟩) ⟨ny_blind, va_recv hK hP (ci := 3) (q0 := 0) rfl rfl, fun U hU hW => ⟨rfl, ny_preU hE hP hK hD hS hA [0, 3, 4] rfl (by decide) rfl [0] rfl U hU hW⟩⟩ rfl rfl hl.1 rfl (lv_room (Nat.le_of_ble_eq_true rfl)) dX1_order_25 ⟨Nat.le_of_ble_eq_true rfl, Nat.le_of_ble_eq_true rfl⟩) (fun r_25 u H locs hw_25 hP hD hS => ?_)
  have hP : va_P D vwCl [(q1, .inl (cI, 12, .inl hf)), (q2, .inl (cZ, 12, .inl bf)), (o, .inr (3, [.ref q1, .ref q2, .ref q3, .ref q4])), (q4, .inr (2, [.ref q6, .int (nI (f_ln (hf i0.toNatClampNeg) (hf i1.toNatClampNeg))), .int (f_la (hf i0.toNatClampNeg) (hf i1.toNatClampNeg)), .int 1])), (q6, .inl (cI, 7, .inl (f_row sr (hf i0.toNatClampNeg) (hf i1.toNatClampNeg) (f_ln (hf i0.toNatClampNeg) (hf i1.toNatClampNeg)))))] H := hP
  have hD : va_D A [(q1, .inl (cI, 12, .inl hf)), (q2, .inl (cZ, 12, .inl bf)), (o, .inr (3, [.ref q1, .ref q2, .ref q3, .ref q4])), (q4, .inr (2, [.ref q6, .int (nI (f_ln (hf i0.toNatClampNeg) (hf i1.toNatClampNeg))), .int (f_la (hf i0.toNatClampNeg) (hf i1.toNatClampNeg)), .int 1])), (q6, .inl (cI, 7, .inl (f_row sr (hf i0.toNatClampNeg) (hf i1.toNatClampNeg) (f_ln (hf i0.toNatClampNeg) (hf i1.toNatClampNeg)))))] := hD
  have hw_25 : r_25 = f_gd (hf i0.toNatClampNeg) (hf i1.toNatClampNeg) := hw_25
  subst hw_25
  refine vp_callSi (va_Run.run (va_runS (As := [.int (hf i1.toNatClampNeg), .int (f_gd (hf i0.toNatClampNeg) (hf i1.toNatClampNeg))]) (rest := []) ⟨hx, hb, hml, hown, hts⟩ (c_X1_quotient l (hf i1.toNatClampNeg) (f_gd (hf i0.toNatClampNeg) (hf i1.toNatClampNeg)) (n_gd0 (gH _ (n_ix gp1)) (gH _ (n_ix gp0)) g0)) (va_cwS 2 hts gX1_order_X1_quotient rfl rfl rfl (by decide +kernel) ⟨Nat.le_of_ble_eq_true rfl, Nat.le_of_ble_eq_true rfl⟩) ⟨ny_blindT, fun U hU hW => ⟨rfl, trivial⟩⟩ rfl rfl hl.1 rfl (lv_room (Nat.le_of_ble_eq_true rfl)) dX1_order_28 ⟨Nat.le_of_ble_eq_true rfl, Nat.le_of_ble_eq_true rfl⟩)) (fun r_28 hw_28 => ?_)
  have hw_28 : r_28 = (hf i1.toNatClampNeg) / (f_gd (hf i0.toNatClampNeg) (hf i1.toNatClampNeg)) := hw_28
  subst hw_28
  refine va_mabs hx hb (hml.trans hl.1.symm) hown (hts (.methodLink RX1 65 Lib.Math.abs.name) (List.mem_of_getElem? (i := 2) rfl)) (hts (.static Lib.Math.abs.name) (List.mem_of_getElem? (i := 3) rfl)) (hts (.initialized "java/lang/Math") (List.mem_of_getElem? (i := 4) rfl)) (hts (.code Lib.Math.abs.name Lib.Math.abs.code 1 (some .int)) (List.mem_of_getElem? (i := 5) rfl)) (Nat.le_of_ble_eq_true rfl) (Nat.le_of_ble_eq_true rfl) (Nat.le_of_ble_eq_true rfl) (Nat.le_of_ble_eq_true rfl) dX1_order_31 ?_
  refine W.eq (g2 := F0 m 34 ls [.int (ny_ab ((hf i1.toNatClampNeg) / (f_gd (hf i0.toNatClampNeg) (hf i1.toNatClampNeg))))]) rfl ?_
  have hP9 := hP.sub (ws' := [(o, .inr (3, [.ref q1, .ref q2, .ref q3, .ref q4])), (q1, .inl (cI, 12, .inl hf)), (q2, .inl (cZ, 12, .inl bf)), (q4, .inr (2, [.ref q6, .int (nI (f_ln (hf i0.toNatClampNeg) (hf i1.toNatClampNeg))), .int (f_la (hf i0.toNatClampNeg) (hf i1.toNatClampNeg)), .int 1])), (q6, .inl (cI, 7, .inl (f_row sr (hf i0.toNatClampNeg) (hf i1.toNatClampNeg) (f_ln (hf i0.toNatClampNeg) (hf i1.toNatClampNeg)))))]) [2, 0, 1, 3, 4] rfl
  have hD9 := hD.sub (ws' := [(o, .inr (3, [.ref q1, .ref q2, .ref q3, .ref q4])), (q1, .inl (cI, 12, .inl hf)), (q2, .inl (cZ, 12, .inl bf)), (q4, .inr (2, [.ref q6, .int (nI (f_ln (hf i0.toNatClampNeg) (hf i1.toNatClampNeg))), .int (f_la (hf i0.toNatClampNeg) (hf i1.toNatClampNeg)), .int 1])), (q6, .inl (cI, 7, .inl (f_row sr (hf i0.toNatClampNeg) (hf i1.toNatClampNeg) (f_ln (hf i0.toNatClampNeg) (hf i1.toNatClampNeg)))))]) [2, 0, 1, 3, 4] (by decide) rfl
  exact W.iret (v := ny_ab ((hf i1.toNatClampNeg) / (f_gd (hf i0.toNatClampNeg) (hf i1.toNatClampNeg)))) hx hb hr (fun t ht hW => ⟨⟨ny_ab ((hf i1.toNatClampNeg) / (f_gd (hf i0.toNatClampNeg) (hf i1.toNatClampNeg))), (), rfl, (rfl), by rw [ht]; exact hP9, va_K.moved hW.alike hK, hD9⟩, hS.F ht⟩) hS.2.2 dX1_order_34
set_option maxHeartbeats 4000000 in
set_option maxRecDepth 100000 in
theorem c_X1_order_noP (l : Launch) (D : va_G) (cI : ClassId) (cZ : ClassId) (o : Nat) (q1 : Nat) (q2 : Nat) (q3 : Nat) (q4 : Nat) (sz : Nat) (hf : Nat → Int32) (bf : Nat → Int32) (i0 : Int32) (i1 : Int32) (gl : l.stackTraces = false) (gb : ¬ vp_in i0 12 ∨ ¬ vp_in i1 12) : vx_Met l yX1_order wsX1_order ({ frames := 8, cells := 1, slots := 6, locals := 132 }) (va_Pc [.ref o, .int i0, .int i1] (ny_pre D [(cI, .int), (cZ, .boolean)] [(o, .inr (3, [.ref q1, .ref q2, .ref q3, .ref q4])), (q1, .inl (cI, 12, .inl hf)), (q2, .inl (cZ, 12, .inl bf))] sz)) (fun _ _ _ _ => False) (vx_X (fun _ : Unit => True) (fun E' _ _ => E' = ny_IO) (fun _ => False)) 1 6 (va_A [(o, .inr (3, [.ref q1, .ref q2, .ref q3, .ref q4])), (q1, .inl (cI, 12, .inl hf)), (q2, .inl (cZ, 12, .inl bf))] sz) := by
  refine vx_ofW (cc := cX1_order) (maxL := 3) (ret := (some .int)) (by decide) rfl ?_
  intro p e s m args below meth c s₁ B hml ht hv
  obtain ⟨rfl, hsz, hP, hK, hD0, hE⟩ := hv
  have hx := B.exec
  have hb := B.bytes
  have hr := B.returns
  have hts := atoms_spec (ws := wsX1_order) B.pre
  have hown : s.vm.findClass RX1 = some m.cls := findClass_of_methodNamed B.named
  have hlocks := B.notSynchronized
  subst hsz
  have hD := hD0.self (sz := s.heap.size)
  generalize hAe : va_A [(o, .inr (3, [.ref q1, .ref q2, .ref q3, .ref q4])), (q1, .inl (cI, 12, .inl hf)), (q2, .inl (cZ, 12, .inl bf))] s.heap.size = A at hD hE ⊢
  have hA : ∀ q : Nat, s.heap.size ≤ q → A q := fun q h => by rw [← hAe]; exact Or.inr h
  have hS : va_S A s.heap s.heap [] := va_S.rf
  have hl := lv_entry ([.ref o, .int i0, .int i1]) (n := 3) (Nat.le_of_ble_eq_true rfl)
  rw [lg_entry_eq]
  generalize (lg_sl ([.ref o, .int i0, .int i1]) ++ List.replicate (3 - (lg_sl ([.ref o, .int i0, .int i1])).length) Slot.unset).toArray = ls at hl ⊢
  have hl : lv_has ls 3 [(0, .ref o), (1, .int i0), (2, .int i1)] := hl
  refine lv_aload_n hx hb dX1_order_0 rfl (lv_at hl 0 rfl) ?_
  refine lv_iload_n hx hb dX1_order_1 rfl (lv_at hl 1 rfl) ?_
  refine lv_iload_n hx hb dX1_order_2 rfl (lv_at hl 2 rfl) ?_
  exact ny_th hS (va_free (wc := [(o, .inr (3, [.ref q1, .ref q2, .ref q3, .ref q4])), (q1, .inl (cI, 12, .inl hf)), (q2, .inl (cZ, 12, .inl bf))]) hD hS hA [0, 1, 2] rfl) ht hlocks (Nat.le_of_ble_eq_true rfl) (Nat.le_of_ble_eq_true rfl) (vx_runV (As := [.int i0, .int i1]) (rest := []) ⟨hx, hb, hml, hown, hts⟩ (c_X1_needDivision_noP l D cI cZ o q1 q2 q3 q4 s.heap.size hf bf i0 i1 (by assumption) (by assumption)) (cwV 2 hts gX1_order_X1_needDivision rfl rfl rfl (by decide +kernel) ⟨Nat.le_of_ble_eq_true rfl, Nat.le_of_ble_eq_true rfl⟩) ⟨ny_blind, va_recv hK hP (ci := 3) (q0 := 0) rfl rfl, fun U hU hW => ⟨rfl, ny_preU hE hP hK hD hS hA [0, 1, 2] rfl (by decide) rfl [0, 1] rfl U hU hW⟩⟩ rfl rfl hl.1 rfl (lv_room (Nat.le_of_ble_eq_true rfl)) dX1_order_3 ⟨Nat.le_of_ble_eq_true rfl, Nat.le_of_ble_eq_true rfl⟩)
set_option maxHeartbeats 4000000 in
set_option maxRecDepth 100000 in
theorem c_X1_order_no0 (l : Launch) (D : va_G) (cI : ClassId) (cZ : ClassId) (o : Nat) (q1 : Nat) (q2 : Nat) (q3 : Nat) (q4 : Nat) (sz : Nat) (hf : Nat → Int32) (bf : Nat → Int32) (i0 : Int32) (i1 : Int32) (gl : l.stackTraces = false) (gp0 : vp_in i0 12) (gp1 : vp_in i1 12) (g0 : hf i1.toNatClampNeg = 0) : vx_Met l yX1_order wsX1_order ({ frames := 7, cells := 1, slots := 6, locals := 112 }) (va_Pc [.ref o, .int i0, .int i1] (ny_pre D [(cI, .int), (cZ, .boolean)] [(o, .inr (3, [.ref q1, .ref q2, .ref q3, .ref q4])), (q1, .inl (cI, 12, .inl hf)), (q2, .inl (cZ, 12, .inl bf))] sz)) (fun _ _ _ _ => False) (vx_X (fun _ : Unit => True) (fun E' _ _ => E' = ny_AE) (fun _ => False)) 1 6 (va_A [(o, .inr (3, [.ref q1, .ref q2, .ref q3, .ref q4])), (q1, .inl (cI, 12, .inl hf)), (q2, .inl (cZ, 12, .inl bf))] sz) := by
  refine vx_ofW (cc := cX1_order) (maxL := 3) (ret := (some .int)) (by decide) rfl ?_
  intro p e s m args below meth c s₁ B hml ht hv
  obtain ⟨rfl, hsz, hP, hK, hD0, hE⟩ := hv
  have hx := B.exec
  have hb := B.bytes
  have hr := B.returns
  have hts := atoms_spec (ws := wsX1_order) B.pre
  have hown : s.vm.findClass RX1 = some m.cls := findClass_of_methodNamed B.named
  have hlocks := B.notSynchronized
  subst hsz
  have hD := hD0.self (sz := s.heap.size)
  generalize hAe : va_A [(o, .inr (3, [.ref q1, .ref q2, .ref q3, .ref q4])), (q1, .inl (cI, 12, .inl hf)), (q2, .inl (cZ, 12, .inl bf))] s.heap.size = A at hD hE ⊢
  have hA : ∀ q : Nat, s.heap.size ≤ q → A q := fun q h => by rw [← hAe]; exact Or.inr h
  have hS : va_S A s.heap s.heap [] := va_S.rf
  have hl := lv_entry ([.ref o, .int i0, .int i1]) (n := 3) (Nat.le_of_ble_eq_true rfl)
  rw [lg_entry_eq]
  generalize (lg_sl ([.ref o, .int i0, .int i1]) ++ List.replicate (3 - (lg_sl ([.ref o, .int i0, .int i1])).length) Slot.unset).toArray = ls at hl ⊢
  have hl : lv_has ls 3 [(0, .ref o), (1, .int i0), (2, .int i1)] := hl
  refine lv_aload_n hx hb dX1_order_0 rfl (lv_at hl 0 rfl) ?_
  refine lv_iload_n hx hb dX1_order_1 rfl (lv_at hl 1 rfl) ?_
  refine lv_iload_n hx hb dX1_order_2 rfl (lv_at hl 2 rfl) ?_
  exact ny_th hS (va_free (wc := [(o, .inr (3, [.ref q1, .ref q2, .ref q3, .ref q4])), (q1, .inl (cI, 12, .inl hf)), (q2, .inl (cZ, 12, .inl bf))]) hD hS hA [0, 1, 2] rfl) ht hlocks (Nat.le_of_ble_eq_true rfl) (Nat.le_of_ble_eq_true rfl) (vx_runV (As := [.int i0, .int i1]) (rest := []) ⟨hx, hb, hml, hown, hts⟩ (c_X1_needDivision_no0 l D cI cZ o q1 q2 q3 q4 s.heap.size hf bf i0 i1 (by assumption) (by assumption) (by assumption) (by assumption)) (cwV 2 hts gX1_order_X1_needDivision rfl rfl rfl (by decide +kernel) ⟨Nat.le_of_ble_eq_true rfl, Nat.le_of_ble_eq_true rfl⟩) ⟨ny_blind, va_recv hK hP (ci := 3) (q0 := 0) rfl rfl, fun U hU hW => ⟨rfl, ny_preU hE hP hK hD hS hA [0, 1, 2] rfl (by decide) rfl [0, 1] rfl U hU hW⟩⟩ rfl rfl hl.1 rfl (lv_room (Nat.le_of_ble_eq_true rfl)) dX1_order_3 ⟨Nat.le_of_ble_eq_true rfl, Nat.le_of_ble_eq_true rfl⟩)
theorem in_X1_measure_X1 : ∀ w ∈ wsX10, w ∈ wsX1_measure := (fun _ h => List.mem_cons_of_mem _ (List.mem_append_left _ (List.mem_append_left _ (List.mem_append_left _ (List.mem_append_left _ (List.mem_append_right _ h))))))
set_option maxHeartbeats 4000000 in
set_option maxRecDepth 100000 in
theorem c_X1_measure (l : Launch) (D : va_G) (cI : ClassId) (cZ : ClassId) (o : Nat) (q1 : Nat) (q2 : Nat) (q3 : Nat) (q4 : Nat) (sz : Nat) (hf : Nat → Int32) (bf : Nat → Int32) (q6 : Nat) (sr : Nat → Int32) (sc : Int32) (sl : Int32) (se : Int32) (i0 : Int32) (i1 : Int32) (i2 : Int32) (gp0 : vp_in i0 12) (gp1 : vp_in i1 12) (gp2 : vp_in i2 12) (gH : ny_H hf) : Met l yX1_measure wsX1_measure ({ frames := 4, cells := 0, slots := 0, locals := 95 }) (va_Pc [.ref o, .int i0, .int i1, .int i2] (ny_pre D [(cI, .int), (cZ, .boolean)] [(o, .inr (3, [.ref q1, .ref q2, .ref q3, .ref q4])), (q1, .inl (cI, 12, .inl hf)), (q2, .inl (cZ, 12, .inl bf)), (q4, .inr (2, [.ref q6, .int sc, .int sl, .int se])), (q6, .inl (cI, 7, .inl sr))] sz)) (va_Ql (fun (r : Int64) (u : Unit) => r = f_bt (f_gd (hf i1.toNatClampNeg) (hf i2.toNatClampNeg)) 0) (fun (u : Unit) t => ny_at D [(cI, .int), (cZ, .boolean)] (va_A [(o, .inr (3, [.ref q1, .ref q2, .ref q3, .ref q4])), (q1, .inl (cI, 12, .inl hf)), (q2, .inl (cZ, 12, .inl bf)), (q4, .inr (2, [.ref q6, .int sc, .int sl, .int se])), (q6, .inl (cI, 7, .inl sr))] sz) [(o, .inr (3, [.ref q1, .ref q2, .ref q3, .ref q4])), (q1, .inl (cI, 12, .inl (upd hf i0.toNatClampNeg (f_gd (hf i1.toNatClampNeg) (hf i2.toNatClampNeg))))), (q2, .inl (cZ, 12, .inl (upd bf i0.toNatClampNeg 0))), (q4, .inr (2, [.ref q6, .int (nI (f_ln (hf i1.toNatClampNeg) (hf i2.toNatClampNeg))), .int (f_la (hf i1.toNatClampNeg) (hf i2.toNatClampNeg)), .int 1])), (q6, .inl (cI, 7, .inl (f_row sr (hf i1.toNatClampNeg) (hf i2.toNatClampNeg) (f_ln (hf i1.toNatClampNeg) (hf i2.toNatClampNeg)))))] t) (va_A [(o, .inr (3, [.ref q1, .ref q2, .ref q3, .ref q4])), (q1, .inl (cI, 12, .inl hf)), (q2, .inl (cZ, 12, .inl bf)), (q4, .inr (2, [.ref q6, .int sc, .int sl, .int se])), (q6, .inl (cI, 7, .inl sr))] sz)) 0 0 (va_A [(o, .inr (3, [.ref q1, .ref q2, .ref q3, .ref q4])), (q1, .inl (cI, 12, .inl hf)), (q2, .inl (cZ, 12, .inl bf)), (q4, .inr (2, [.ref q6, .int sc, .int sl, .int se])), (q6, .inl (cI, 7, .inl sr))] sz) := by
  refine Met.ofW (cc := cX1_measure) (maxL := 4) (ret := (some .long)) (by decide) rfl ?_
  intro p e s m args below meth c s₁ B hml hv
  obtain ⟨rfl, hsz, hP, hK, hD0, hE⟩ := hv
  have hx := B.exec
  have hb := B.bytes
  have hr := B.returns
  have hts := atoms_spec (ws := wsX1_measure) B.pre
  have hown : s.vm.findClass RX1 = some m.cls := findClass_of_methodNamed B.named
  have hlocks := B.notSynchronized
  subst hsz
  have hD := hD0.self (sz := s.heap.size)
  generalize hAe : va_A [(o, .inr (3, [.ref q1, .ref q2, .ref q3, .ref q4])), (q1, .inl (cI, 12, .inl hf)), (q2, .inl (cZ, 12, .inl bf)), (q4, .inr (2, [.ref q6, .int sc, .int sl, .int se])), (q6, .inl (cI, 7, .inl sr))] s.heap.size = A at hD hE ⊢
  have hA : ∀ q : Nat, s.heap.size ≤ q → A q := fun q h => by rw [← hAe]; exact Or.inr h
  have hS : va_S A s.heap s.heap [] := va_S.rf
  have hl := lv_entry ([.ref o, .int i0, .int i1, .int i2]) (n := 4) (Nat.le_of_ble_eq_true rfl)
  rw [lg_entry_eq]
  generalize (lg_sl ([.ref o, .int i0, .int i1, .int i2]) ++ List.replicate (4 - (lg_sl ([.ref o, .int i0, .int i1, .int i2])).length) Slot.unset).toArray = ls at hl ⊢
  have hl : lv_has ls 4 [(0, .ref o), (1, .int i0), (2, .int i1), (3, .int i2)] := hl
  refine lv_iload_n hx hb dX1_measure_0 rfl (lv_at hl 1 rfl) ?_
  refine va_csv (va_Run.run (va_runS (As := [.int i0]) (rest := []) ⟨hx, hb, hml, hown, hts⟩ (c_X1_needPlace l i0 (by assumption)) (va_cwS 1 hts gX1_measure_X1_needPlace rfl rfl rfl (by decide +kernel) ⟨Nat.le_of_ble_eq_true rfl, Nat.le_of_ble_eq_true rfl⟩) ⟨ny_blindT, fun U hU hW => ⟨rfl, trivial⟩⟩ rfl rfl hl.1 rfl (lv_room (Nat.le_of_ble_eq_true rfl)) dX1_measure_1 ⟨Nat.le_of_ble_eq_true rfl, Nat.le_of_ble_eq_true rfl⟩)) (fun hw => ?_)
  refine lv_iload_n hx hb dX1_measure_4 rfl (lv_at hl 2 rfl) ?_
  refine va_csv (va_Run.run (va_runS (As := [.int i1]) (rest := []) ⟨hx, hb, hml, hown, hts⟩ (c_X1_needPlace l i1 (by assumption)) (va_cwS 1 hts gX1_measure_X1_needPlace rfl rfl rfl (by decide +kernel) ⟨Nat.le_of_ble_eq_true rfl, Nat.le_of_ble_eq_true rfl⟩) ⟨ny_blindT, fun U hU hW => ⟨rfl, trivial⟩⟩ rfl rfl hl.1 rfl (lv_room (Nat.le_of_ble_eq_true rfl)) dX1_measure_5 ⟨Nat.le_of_ble_eq_true rfl, Nat.le_of_ble_eq_true rfl⟩)) (fun hw => ?_)
  refine lv_iload_n hx hb dX1_measure_8 rfl (lv_at hl 3 rfl) ?_
  refine va_csv (va_Run.run (va_runS (As := [.int i2]) (rest := []) ⟨hx, hb, hml, hown, hts⟩ (c_X1_needPlace l i2 (by assumption)) (va_cwS 1 hts gX1_measure_X1_needPlace rfl rfl rfl (by decide +kernel) ⟨Nat.le_of_ble_eq_true rfl, Nat.le_of_ble_eq_true rfl⟩) ⟨ny_blindT, fun U hU hW => ⟨rfl, trivial⟩⟩ rfl rfl hl.1 rfl (lv_room (Nat.le_of_ble_eq_true rfl)) dX1_measure_9 ⟨Nat.le_of_ble_eq_true rfl, Nat.le_of_ble_eq_true rfl⟩)) (fun hw => ?_)
  refine lv_aload_n hx hb dX1_measure_12 rfl (lv_at hl 0 rfl) ?_
  refine lv_iload_n hx hb dX1_measure_13 rfl (lv_at hl 1 rfl) ?_
  refine lv_aload_n hx hb dX1_measure_14 rfl (lv_at hl 0 rfl) ?_
  refine lv_aload_n hx hb dX1_measure_15 rfl (lv_at hl 0 rfl) ?_
  refine va_get (D := D) (ci := 3) (v := .ref q1) (C := RX1) (T := TX1) (N := 4) hx hb hts in_X1_measure_X1 hown hK hP 0 rfl rfl 0 (by decide) (hts (.fieldLink RX1 9 "Nearestclock" "held" "[I") (List.mem_of_getElem? (i := 1) rfl)) (fun _ h9 => h9) rfl dX1_measure_16 ?_
  refine lv_iload_n hx hb dX1_measure_19 rfl (lv_at hl 2 rfl) ?_
  refine va_iald hx hb hK hP 1 0 rfl rfl (by assumption) dX1_measure_20 ?_
  refine lv_aload_n hx hb dX1_measure_21 rfl (lv_at hl 0 rfl) ?_
  refine va_get (D := D) (ci := 3) (v := .ref q1) (C := RX1) (T := TX1) (N := 4) hx hb hts in_X1_measure_X1 hown hK hP 0 rfl rfl 0 (by decide) (hts (.fieldLink RX1 9 "Nearestclock" "held" "[I") (List.mem_of_getElem? (i := 1) rfl)) (fun _ h9 => h9) rfl dX1_measure_22 ?_
  refine lv_iload_n hx hb dX1_measure_25 rfl (lv_at hl 3 rfl) ?_
  refine va_iald hx hb hK hP 1 0 rfl rfl (by assumption) dX1_measure_26 ?_
  refine ny_i (wc := [(o, .inr (3, [.ref q1, .ref q2, .ref q3, .ref q4])), (q4, .inr (2, [.ref q6, .int sc, .int sl, .int se])), (q6, .inl (cI, 7, .inl sr))]) (wr := [(q1, .inl (cI, 12, .inl hf)), (q2, .inl (cZ, 12, .inl bf))]) hP hD hS hA [0, 3, 4] [1, 2] rfl rfl (by decide) (by decide) (va_runV (As := [.int (hf i1.toNatClampNeg), .int (hf i2.toNatClampNeg)]) (rest := [.int i0, .ref o]) ⟨hx, hb, hml, hown, hts⟩ (c_X1_measureOf l D cI o q1 q2 q3 q4 q6 s.heap.size sr sc sl se (hf i1.toNatClampNeg) (hf i2.toNatClampNeg) (gH _ (n_ix gp1)) (gH _ (n_ix gp2))) (cwV 2 hts gX1_measure_X1_measureOf rfl rfl rfl (by decide +kernel) ⟨Nat.le_of_ble_eq_true rfl, Nat.le_of_ble_eq_true rfl⟩) ⟨ny_blind, va_recv hK hP (ci := 3) (q0 := 0) rfl rfl, fun U hU hW => ⟨rfl, ny_preU hE hP hK hD hS hA [0, 3, 4] rfl (by decide) rfl [0] rfl U hU hW⟩⟩ rfl rfl hl.1 rfl (lv_room (Nat.le_of_ble_eq_true rfl)) dX1_measure_27 ⟨Nat.le_of_ble_eq_true rfl, Nat.le_of_ble_eq_true rfl⟩) (fun r_27 u H locs hw_27 hP hD hS => ?_)
  have hP : va_P D vwCl [(q1, .inl (cI, 12, .inl hf)), (q2, .inl (cZ, 12, .inl bf)), (o, .inr (3, [.ref q1, .ref q2, .ref q3, .ref q4])), (q4, .inr (2, [.ref q6, .int (nI (f_ln (hf i1.toNatClampNeg) (hf i2.toNatClampNeg))), .int (f_la (hf i1.toNatClampNeg) (hf i2.toNatClampNeg)), .int 1])), (q6, .inl (cI, 7, .inl (f_row sr (hf i1.toNatClampNeg) (hf i2.toNatClampNeg) (f_ln (hf i1.toNatClampNeg) (hf i2.toNatClampNeg)))))] H := hP
  have hD : va_D A [(q1, .inl (cI, 12, .inl hf)), (q2, .inl (cZ, 12, .inl bf)), (o, .inr (3, [.ref q1, .ref q2, .ref q3, .ref q4])), (q4, .inr (2, [.ref q6, .int (nI (f_ln (hf i1.toNatClampNeg) (hf i2.toNatClampNeg))), .int (f_la (hf i1.toNatClampNeg) (hf i2.toNatClampNeg)), .int 1])), (q6, .inl (cI, 7, .inl (f_row sr (hf i1.toNatClampNeg) (hf i2.toNatClampNeg) (f_ln (hf i1.toNatClampNeg) (hf i2.toNatClampNeg)))))] := hD
  have hw_27 : r_27 = f_gd (hf i1.toNatClampNeg) (hf i2.toNatClampNeg) := hw_27
  subst hw_27
  refine lv_iconst (v := 0) hx hb dX1_measure_30 (by decide) ?_
  refine ny_l (wc := [(o, .inr (3, [.ref q1, .ref q2, .ref q3, .ref q4])), (q1, .inl (cI, 12, .inl hf)), (q2, .inl (cZ, 12, .inl bf))]) (wr := [(q4, .inr (2, [.ref q6, .int (nI (f_ln (hf i1.toNatClampNeg) (hf i2.toNatClampNeg))), .int (f_la (hf i1.toNatClampNeg) (hf i2.toNatClampNeg)), .int 1])), (q6, .inl (cI, 7, .inl (f_row sr (hf i1.toNatClampNeg) (hf i2.toNatClampNeg) (f_ln (hf i1.toNatClampNeg) (hf i2.toNatClampNeg)))))]) hP hD hS hA [2, 0, 1] [3, 4] rfl rfl (by decide) (by decide) (va_runV (As := [.int i0, .int (f_gd (hf i1.toNatClampNeg) (hf i2.toNatClampNeg)), .int 0]) (rest := []) ⟨hx, hb, hml, hown, hts⟩ (c_X1_keep l D cI cZ o q1 q2 q3 q4 H.size hf bf i0 (f_gd (hf i1.toNatClampNeg) (hf i2.toNatClampNeg)) 0 (by assumption) (n_R_gd (gH _ (n_ix gp2)) (gH _ (n_ix gp1))) (Or.inl rfl)) (cwV 3 hts gX1_measure_X1_keep rfl rfl rfl (by decide +kernel) ⟨Nat.le_of_ble_eq_true rfl, Nat.le_of_ble_eq_true rfl⟩) ⟨ny_blind, va_recv hK hP (ci := 3) (q0 := 2) rfl rfl, fun U hU hW => ⟨rfl, ny_preU hE hP hK hD hS hA [2, 0, 1] rfl (by decide) rfl [0, 1] rfl U hU hW⟩⟩ rfl rfl hl.1 rfl (lv_room (Nat.le_of_ble_eq_true rfl)) dX1_measure_31 ⟨Nat.le_of_ble_eq_true rfl, Nat.le_of_ble_eq_true rfl⟩) (fun r_31 u H locs hw_31 hP hD hS => ?_)
  have hP : va_P D vwCl [(q4, .inr (2, [.ref q6, .int (nI (f_ln (hf i1.toNatClampNeg) (hf i2.toNatClampNeg))), .int (f_la (hf i1.toNatClampNeg) (hf i2.toNatClampNeg)), .int 1])), (q6, .inl (cI, 7, .inl (f_row sr (hf i1.toNatClampNeg) (hf i2.toNatClampNeg) (f_ln (hf i1.toNatClampNeg) (hf i2.toNatClampNeg))))), (o, .inr (3, [.ref q1, .ref q2, .ref q3, .ref q4])), (q1, .inl (cI, 12, .inl (upd hf i0.toNatClampNeg (f_gd (hf i1.toNatClampNeg) (hf i2.toNatClampNeg))))), (q2, .inl (cZ, 12, .inl (upd bf i0.toNatClampNeg 0)))] H := hP
  have hD : va_D A [(q4, .inr (2, [.ref q6, .int (nI (f_ln (hf i1.toNatClampNeg) (hf i2.toNatClampNeg))), .int (f_la (hf i1.toNatClampNeg) (hf i2.toNatClampNeg)), .int 1])), (q6, .inl (cI, 7, .inl (f_row sr (hf i1.toNatClampNeg) (hf i2.toNatClampNeg) (f_ln (hf i1.toNatClampNeg) (hf i2.toNatClampNeg))))), (o, .inr (3, [.ref q1, .ref q2, .ref q3, .ref q4])), (q1, .inl (cI, 12, .inl (upd hf i0.toNatClampNeg (f_gd (hf i1.toNatClampNeg) (hf i2.toNatClampNeg))))), (q2, .inl (cZ, 12, .inl (upd bf i0.toNatClampNeg 0)))] := hD
  have hw_31 : r_31 = f_bt (f_gd (hf i1.toNatClampNeg) (hf i2.toNatClampNeg)) 0 := hw_31
  subst hw_31
  have hP9 := hP.sub (ws' := [(o, .inr (3, [.ref q1, .ref q2, .ref q3, .ref q4])), (q1, .inl (cI, 12, .inl (upd hf i0.toNatClampNeg (f_gd (hf i1.toNatClampNeg) (hf i2.toNatClampNeg))))), (q2, .inl (cZ, 12, .inl (upd bf i0.toNatClampNeg 0))), (q4, .inr (2, [.ref q6, .int (nI (f_ln (hf i1.toNatClampNeg) (hf i2.toNatClampNeg))), .int (f_la (hf i1.toNatClampNeg) (hf i2.toNatClampNeg)), .int 1])), (q6, .inl (cI, 7, .inl (f_row sr (hf i1.toNatClampNeg) (hf i2.toNatClampNeg) (f_ln (hf i1.toNatClampNeg) (hf i2.toNatClampNeg)))))]) [2, 3, 4, 0, 1] rfl
  have hD9 := hD.sub (ws' := [(o, .inr (3, [.ref q1, .ref q2, .ref q3, .ref q4])), (q1, .inl (cI, 12, .inl (upd hf i0.toNatClampNeg (f_gd (hf i1.toNatClampNeg) (hf i2.toNatClampNeg))))), (q2, .inl (cZ, 12, .inl (upd bf i0.toNatClampNeg 0))), (q4, .inr (2, [.ref q6, .int (nI (f_ln (hf i1.toNatClampNeg) (hf i2.toNatClampNeg))), .int (f_la (hf i1.toNatClampNeg) (hf i2.toNatClampNeg)), .int 1])), (q6, .inl (cI, 7, .inl (f_row sr (hf i1.toNatClampNeg) (hf i2.toNatClampNeg) (f_ln (hf i1.toNatClampNeg) (hf i2.toNatClampNeg)))))]) [2, 3, 4, 0, 1] (by decide) rfl
  exact W.lret (v := f_bt (f_gd (hf i1.toNatClampNeg) (hf i2.toNatClampNeg)) 0) hx hb hr (fun t ht hW => ⟨⟨f_bt (f_gd (hf i1.toNatClampNeg) (hf i2.toNatClampNeg)) 0, (), rfl, (rfl), by rw [ht]; exact hP9, va_K.moved hW.alike hK, hD9⟩, hS.F ht⟩) hS.2.2 dX1_measure_34
set_option maxHeartbeats 4000000 in
set_option maxRecDepth 100000 in
theorem c_X1_measure_noP (l : Launch) (D : va_G) (cI : ClassId) (cZ : ClassId) (o : Nat) (q1 : Nat) (q2 : Nat) (q3 : Nat) (q4 : Nat) (sz : Nat) (hf : Nat → Int32) (bf : Nat → Int32) (i0 : Int32) (i1 : Int32) (i2 : Int32) (gl : l.stackTraces = false) (gb : ¬ vp_in i0 12 ∨ (¬ vp_in i1 12 ∨ ¬ vp_in i2 12)) : vx_Met l yX1_measure wsX1_measure ({ frames := 7, cells := 1, slots := 6, locals := 110 }) (va_Pc [.ref o, .int i0, .int i1, .int i2] (ny_pre D [(cI, .int), (cZ, .boolean)] [(o, .inr (3, [.ref q1, .ref q2, .ref q3, .ref q4])), (q1, .inl (cI, 12, .inl hf)), (q2, .inl (cZ, 12, .inl bf))] sz)) (fun _ _ _ _ => False) (vx_X (fun _ : Unit => True) (fun E' _ _ => E' = ny_IO) (fun _ => False)) 1 6 (va_A [(o, .inr (3, [.ref q1, .ref q2, .ref q3, .ref q4])), (q1, .inl (cI, 12, .inl hf)), (q2, .inl (cZ, 12, .inl bf))] sz) := by
  refine vx_ofW (cc := cX1_measure) (maxL := 4) (ret := (some .long)) (by decide) rfl ?_
  intro p e s m args below meth c s₁ B hml ht hv
  obtain ⟨rfl, hsz, hP, hK, hD0, hE⟩ := hv
  have hx := B.exec
  have hb := B.bytes
  have hr := B.returns
  have hts := atoms_spec (ws := wsX1_measure) B.pre
  have hown : s.vm.findClass RX1 = some m.cls := findClass_of_methodNamed B.named
  have hlocks := B.notSynchronized
  subst hsz
  have hD := hD0.self (sz := s.heap.size)
  generalize hAe : va_A [(o, .inr (3, [.ref q1, .ref q2, .ref q3, .ref q4])), (q1, .inl (cI, 12, .inl hf)), (q2, .inl (cZ, 12, .inl bf))] s.heap.size = A at hD hE ⊢
  have hA : ∀ q : Nat, s.heap.size ≤ q → A q := fun q h => by rw [← hAe]; exact Or.inr h
  have hS : va_S A s.heap s.heap [] := va_S.rf
  have hl := lv_entry ([.ref o, .int i0, .int i1, .int i2]) (n := 4) (Nat.le_of_ble_eq_true rfl)
  rw [lg_entry_eq]
  generalize (lg_sl ([.ref o, .int i0, .int i1, .int i2]) ++ List.replicate (4 - (lg_sl ([.ref o, .int i0, .int i1, .int i2])).length) Slot.unset).toArray = ls at hl ⊢
  have hl : lv_has ls 4 [(0, .ref o), (1, .int i0), (2, .int i1), (3, .int i2)] := hl
  refine lv_iload_n hx hb dX1_measure_0 rfl (lv_at hl 1 rfl) ?_
  by_cases q_1 : vp_in i0 12
  · have gb := gb.resolve_left (fun h => h q_1)
    refine va_csv (va_Run.run (va_runS (As := [.int i0]) (rest := []) ⟨hx, hb, hml, hown, hts⟩ (c_X1_needPlace l i0 (by assumption)) (va_cwS 1 hts gX1_measure_X1_needPlace rfl rfl rfl (by decide +kernel) ⟨Nat.le_of_ble_eq_true rfl, Nat.le_of_ble_eq_true rfl⟩) ⟨ny_blindT, fun U hU hW => ⟨rfl, trivial⟩⟩ rfl rfl hl.1 rfl (lv_room (Nat.le_of_ble_eq_true rfl)) dX1_measure_1 ⟨Nat.le_of_ble_eq_true rfl, Nat.le_of_ble_eq_true rfl⟩)) (fun hw => ?_)
    refine lv_iload_n hx hb dX1_measure_4 rfl (lv_at hl 2 rfl) ?_
    by_cases q_5 : vp_in i1 12
    · have gb := gb.resolve_left (fun h => h q_5)
      refine va_csv (va_Run.run (va_runS (As := [.int i1]) (rest := []) ⟨hx, hb, hml, hown, hts⟩ (c_X1_needPlace l i1 (by assumption)) (va_cwS 1 hts gX1_measure_X1_needPlace rfl rfl rfl (by decide +kernel) ⟨Nat.le_of_ble_eq_true rfl, Nat.le_of_ble_eq_true rfl⟩) ⟨ny_blindT, fun U hU hW => ⟨rfl, trivial⟩⟩ rfl rfl hl.1 rfl (lv_room (Nat.le_of_ble_eq_true rfl)) dX1_measure_5 ⟨Nat.le_of_ble_eq_true rfl, Nat.le_of_ble_eq_true rfl⟩)) (fun hw => ?_)
      refine lv_iload_n hx hb dX1_measure_8 rfl (lv_at hl 3 rfl) ?_
      exact ny_th hS (va_free (wc := []) hD hS hA [] rfl) ht hlocks (Nat.le_of_ble_eq_true rfl) (Nat.le_of_ble_eq_true rfl) (vx_runS (As := [.int i2]) (rest := []) ⟨hx, hb, hml, hown, hts⟩ (c_X1_needPlace_no l D s.heap.size i2 (by assumption) (by assumption)) (va_cwS 1 hts gX1_measure_X1_needPlace rfl rfl rfl (by decide +kernel) ⟨Nat.le_of_ble_eq_true rfl, Nat.le_of_ble_eq_true rfl⟩) ⟨ny_blind, fun U hU hW => ⟨rfl, ny_preU hE hP hK hD hS hA [] rfl (by decide) rfl [] rfl U hU hW⟩⟩ rfl rfl hl.1 rfl (lv_room (Nat.le_of_ble_eq_true rfl)) dX1_measure_9 ⟨Nat.le_of_ble_eq_true rfl, Nat.le_of_ble_eq_true rfl⟩)
    · exact ny_th hS (va_free (wc := []) hD hS hA [] rfl) ht hlocks (Nat.le_of_ble_eq_true rfl) (Nat.le_of_ble_eq_true rfl) (vx_runS (As := [.int i1]) (rest := []) ⟨hx, hb, hml, hown, hts⟩ (c_X1_needPlace_no l D s.heap.size i1 (by assumption) (by assumption)) (va_cwS 1 hts gX1_measure_X1_needPlace rfl rfl rfl (by decide +kernel) ⟨Nat.le_of_ble_eq_true rfl, Nat.le_of_ble_eq_true rfl⟩) ⟨ny_blind, fun U hU hW => ⟨rfl, ny_preU hE hP hK hD hS hA [] rfl (by decide) rfl [] rfl U hU hW⟩⟩ rfl rfl hl.1 rfl (lv_room (Nat.le_of_ble_eq_true rfl)) dX1_measure_5 ⟨Nat.le_of_ble_eq_true rfl, Nat.le_of_ble_eq_true rfl⟩)
  · exact ny_th hS (va_free (wc := []) hD hS hA [] rfl) ht hlocks (Nat.le_of_ble_eq_true rfl) (Nat.le_of_ble_eq_true rfl) (vx_runS (As := [.int i0]) (rest := []) ⟨hx, hb, hml, hown, hts⟩ (c_X1_needPlace_no l D s.heap.size i0 (by assumption) (by assumption)) (va_cwS 1 hts gX1_measure_X1_needPlace rfl rfl rfl (by decide +kernel) ⟨Nat.le_of_ble_eq_true rfl, Nat.le_of_ble_eq_true rfl⟩) ⟨ny_blind, fun U hU hW => ⟨rfl, ny_preU hE hP hK hD hS hA [] rfl (by decide) rfl [] rfl U hU hW⟩⟩ rfl rfl hl.1 rfl (lv_room (Nat.le_of_ble_eq_true rfl)) dX1_measure_1 ⟨Nat.le_of_ble_eq_true rfl, Nat.le_of_ble_eq_true rfl⟩)
theorem in_X1_checksum_X0 : ∀ w ∈ wsX00, w ∈ wsX1_checksum := (fun _ h => List.mem_cons_of_mem _ (List.mem_append_left _ (List.mem_append_right _ h)))
theorem in_X1_checksum_X1 : ∀ w ∈ wsX10, w ∈ wsX1_checksum := (fun _ h => List.mem_cons_of_mem _ (List.mem_append_left _ (List.mem_append_left _ (List.mem_append_right _ h))))
set_option maxHeartbeats 4000000 in
set_option maxRecDepth 100000 in
theorem c_X1_checksum (l : Launch) (D : va_G) (cI : ClassId) (cZ : ClassId) (o : Nat) (q1 : Nat) (q2 : Nat) (q3 : Nat) (q4 : Nat) (sz : Nat) (hf : Nat → Int32) (bf : Nat → Int32) (q5 : Nat) (tr : Nat → Int32) (tc : Int32) (tl : Int32) (te : Int32) (gH : ny_H hf) (g0 : 0 ≤ tc.toInt) (g7 : tc.toInt ≤ 7) : Met l yX1_checksum wsX1_checksum ({ frames := 3, cells := 0, slots := 0, locals := 72 }) (va_Pc [.ref o] (ny_pre D [(cI, .int), (cZ, .boolean)] [(o, .inr (3, [.ref q1, .ref q2, .ref q3, .ref q4])), (q1, .inl (cI, 12, .inl hf)), (q2, .inl (cZ, 12, .inl bf)), (q3, .inr (2, [.ref q5, .int tc, .int tl, .int te])), (q5, .inl (cI, 7, .inl tr))] sz)) (vp_Sl (fun r => r = f_cd (31 * f_ck hf bf 12 + tc.toInt64) tr tc.toNatClampNeg)) 0 0 (fun _ => False) := by
  refine Met.ofW (cc := cX1_checksum) (maxL := 4) (ret := (some .long)) (by decide) rfl ?_
  intro p e s m args below meth c s₁ B hml hv
  obtain ⟨rfl, hsz, hP, hK, hD0, hE⟩ := hv
  have hx := B.exec
  have hb := B.bytes
  have hr := B.returns
  have hts := atoms_spec (ws := wsX1_checksum) B.pre
  have hown : s.vm.findClass RX1 = some m.cls := findClass_of_methodNamed B.named
  have hlocks := B.notSynchronized
  subst hsz
  have hD := hD0.self (sz := s.heap.size)
  generalize hAe : va_A [(o, .inr (3, [.ref q1, .ref q2, .ref q3, .ref q4])), (q1, .inl (cI, 12, .inl hf)), (q2, .inl (cZ, 12, .inl bf)), (q3, .inr (2, [.ref q5, .int tc, .int tl, .int te])), (q5, .inl (cI, 7, .inl tr))] s.heap.size = A at hD hE
  have hA : ∀ q : Nat, s.heap.size ≤ q → A q := fun q h => by rw [← hAe]; exact Or.inr h
  have hS : va_S A s.heap s.heap [] := va_S.rf
  have hl := lv_entry ([.ref o]) (n := 4) (Nat.le_of_ble_eq_true rfl)
  rw [lg_entry_eq]
  generalize (lg_sl ([.ref o]) ++ List.replicate (4 - (lg_sl ([.ref o])).length) Slot.unset).toArray = ls at hl ⊢
  have hl : lv_has ls 4 [(0, .ref o)] := hl
  refine lv_ldc2 (own := RX1) (v := 17) hx hb hown (hts (.constantLong RX1 130 (17)) (List.mem_of_getElem? (i := 1) rfl)) dX1_checksum_0 ?_
  refine ny_tl (x2 := f_ck hf bf 0) (rfl) ?_
  refine lv_lstore_n (lv' := [(1, .long (f_ck hf bf 0)), (0, .ref o)]) hx hb dX1_checksum_3 rfl hl (by decide) rfl (fun ls hl => ?_)
  refine lv_iconst (v := 0) hx hb dX1_checksum_4 (by decide) ?_
  refine ny_ti (x2 := nI 0) (rfl) ?_
  refine lv_istore_n (lv' := [(3, .int (nI 0)), (1, .long (f_ck hf bf 0)), (0, .ref o)]) hx hb dX1_checksum_5 rfl hl (by decide) rfl (fun ls hl => ?_)
  refine ny_lp 6 4 (fun u : Nat => u ≤ 12) (fun u => 12 - u) (fun u => [(0, .ref o), (1, .long (f_ck hf bf u)), (3, .int (nI u))]) (fun u hu ih ls hl => ?_) 0 (show 0 ≤ 12 from by decide) (lv_sub hl [2, 1, 0] rfl)
  obtain ⟨k, rfl⟩ : ∃ z, z = u := ⟨_, rfl⟩
  have hk : k ≤ 12 := hu
  have hl : lv_has ls 4 [(0, .ref o), (1, .long (f_ck hf bf k)), (3, .int (nI k))] := hl
  refine lv_iload_n hx hb dX1_checksum_6 rfl (lv_at hl 2 rfl) ?_
  refine lv_bipush (v := 12) hx hb dX1_checksum_7 (by decide) ?_
  refine lv_icmp_ge (tgt := 30) hx hb dX1_checksum_9 (by decide) (fun c_9 => ?_) (fun c_9 => ?_)
  · refine lv_ldc2 (own := RX1) (v := 31) hx hb hown (hts (.constantLong RX1 132 (31)) (List.mem_of_getElem? (i := 2) rfl)) dX1_checksum_30 ?_
    refine lv_lload_n hx hb dX1_checksum_33 rfl (lv_at hl 1 rfl) ?_
    refine lv_lmul hx hb dX1_checksum_34 ?_
    refine lv_aload_n hx hb dX1_checksum_35 rfl (lv_at hl 0 rfl) ?_
    refine va_get (D := D) (ci := 3) (v := .ref q3) (C := RX1) (T := TX1) (N := 4) hx hb hts in_X1_checksum_X1 hown hK hP 0 rfl rfl 2 (by decide) (hts (.fieldLink RX1 20 "Nearestclock" "told" "LNearestclock$Euclid;") (List.mem_of_getElem? (i := 3) rfl)) (fun _ h9 => h9) rfl dX1_checksum_36 ?_
    refine va_getN (D := D) (ci := 2) (v := .int tc) (C := RX0) (T := TX0) (N := 4) hx hb hts in_X1_checksum_X0 hown hK hP 3 rfl rfl 1 (by decide) (va_Nw.use rfl (hE.2.2.1 (109, "count", "I") (List.mem_of_getElem? (i := 0) rfl))) (fun _ h9 => h9) rfl dX1_checksum_39 ?_
    refine lv_i2l hx hb dX1_checksum_42 rfl ?_
    refine lv_ladd hx hb dX1_checksum_43 ?_
    refine ny_tl (x2 := f_cd (31 * f_ck hf bf 12 + tc.toInt64) tr 0) (by rw [n_ge12 hk c_9]; rfl) ?_
    refine lv_lstore_n (lv' := [(1, .long (f_cd (31 * f_ck hf bf 12 + tc.toInt64) tr 0)), (0, .ref o), (3, .int (nI k))]) hx hb dX1_checksum_44 rfl hl (by decide) rfl (fun ls hl => ?_)
    refine lv_iconst (v := 0) hx hb dX1_checksum_45 (by decide) ?_
    refine ny_ti (x2 := nI 0) (rfl) ?_
    refine lv_istore_n (lv' := [(3, .int (nI 0)), (1, .long (f_cd (31 * f_ck hf bf 12 + tc.toInt64) tr 0)), (0, .ref o)]) hx hb dX1_checksum_46 rfl hl (by decide) rfl (fun ls hl => ?_)
    refine ny_lp 47 4 (fun u : Nat => u ≤ tc.toNatClampNeg) (fun u => tc.toNatClampNeg - u) (fun u => [(0, .ref o), (1, .long (f_cd (31 * f_ck hf bf 12 + tc.toInt64) tr u)), (3, .int (nI u))]) (fun u hu ih ls hl => ?_) 0 (show 0 ≤ tc.toNatClampNeg from Nat.zero_le _) (lv_sub hl [2, 1, 0] rfl)
    obtain ⟨j, rfl⟩ : ∃ z, z = u := ⟨_, rfl⟩
    have hj : j ≤ tc.toNatClampNeg := hu
    have hl : lv_has ls 4 [(0, .ref o), (1, .long (f_cd (31 * f_ck hf bf 12 + tc.toInt64) tr j)), (3, .int (nI j))] := hl
    have hj7 : j ≤ 7 := by have := n_cl g0; omega
    refine lv_iload_n hx hb dX1_checksum_47 rfl (lv_at hl 2 rfl) ?_
    refine lv_aload_n hx hb dX1_checksum_48 rfl (lv_at hl 0 rfl) ?_
    refine va_get (D := D) (ci := 3) (v := .ref q3) (C := RX1) (T := TX1) (N := 4) hx hb hts in_X1_checksum_X1 hown hK hP 0 rfl rfl 2 (by decide) (hts (.fieldLink RX1 20 "Nearestclock" "told" "LNearestclock$Euclid;") (List.mem_of_getElem? (i := 3) rfl)) (fun _ h9 => h9) rfl dX1_checksum_49 ?_
    refine va_getN (D := D) (ci := 2) (v := .int tc) (C := RX0) (T := TX0) (N := 4) hx hb hts in_X1_checksum_X0 hown hK hP 3 rfl rfl 1 (by decide) (va_Nw.use rfl (hE.2.2.1 (109, "count", "I") (List.mem_of_getElem? (i := 0) rfl))) (fun _ h9 => h9) rfl dX1_checksum_52 ?_
    refine lv_icmp_ge (tgt := 81) hx hb dX1_checksum_55 (by decide) (fun c_55 => ?_) (fun c_55 => ?_)
    · refine lv_lload_n hx hb dX1_checksum_81 rfl (lv_at hl 1 rfl) ?_
      exact W.lret (v := f_cd (31 * f_ck hf bf 12 + tc.toInt64) tr j) hx hb hr (fun t ht hW => ⟨f_cd (31 * f_ck hf bf 12 + tc.toInt64) tr j, rfl, (by rw [n_shE hj7 hj g0 c_55]), ht⟩) (fun q hq => absurd hq List.not_mem_nil) dX1_checksum_82
    · have hj2 := n_shC hj7 g0 c_55
      refine lv_ldc2 (own := RX1) (v := 31) hx hb hown (hts (.constantLong RX1 132 (31)) (List.mem_of_getElem? (i := 2) rfl)) dX1_checksum_58 ?_
      refine lv_lload_n hx hb dX1_checksum_61 rfl (lv_at hl 1 rfl) ?_
      refine lv_lmul hx hb dX1_checksum_62 ?_
      refine lv_aload_n hx hb dX1_checksum_63 rfl (lv_at hl 0 rfl) ?_
      refine va_get (D := D) (ci := 3) (v := .ref q3) (C := RX1) (T := TX1) (N := 4) hx hb hts in_X1_checksum_X1 hown hK hP 0 rfl rfl 2 (by decide) (hts (.fieldLink RX1 20 "Nearestclock" "told" "LNearestclock$Euclid;") (List.mem_of_getElem? (i := 3) rfl)) (fun _ h9 => h9) rfl dX1_checksum_64 ?_
      refine va_getN (D := D) (ci := 2) (v := .ref q5) (C := RX0) (T := TX0) (N := 4) hx hb hts in_X1_checksum_X0 hown hK hP 3 rfl rfl 0 (by decide) (va_Nw.use rfl (hE.2.2.1 (118, "row", "[I") (List.mem_of_getElem? (i := 1) rfl))) (fun _ h9 => h9) rfl dX1_checksum_67 ?_
      refine lv_iload_n hx hb dX1_checksum_70 rfl (lv_at hl 2 rfl) ?_
      refine va_iald hx hb hK hP 4 0 rfl rfl (vp_in_nI (by have := n_cl g0; omega) (by decide)) dX1_checksum_71 ?_
      refine lv_i2l hx hb dX1_checksum_72 rfl ?_
      refine lv_ladd hx hb dX1_checksum_73 ?_
      refine ny_tl (x2 := f_cd (31 * f_ck hf bf 12 + tc.toInt64) tr (j + 1)) (f_cdS _ tr (by omega)) ?_
      refine lv_lstore_n (lv' := [(1, .long (f_cd (31 * f_ck hf bf 12 + tc.toInt64) tr (j + 1))), (0, .ref o), (3, .int (nI j))]) hx hb dX1_checksum_74 rfl hl (by decide) rfl (fun ls hl => ?_)
      refine lv_iinc (v := nI (j + 1)) (lv' := [(3, .int (nI (j + 1))), (1, .long (f_cd (31 * f_ck hf bf 12 + tc.toInt64) tr (j + 1))), (0, .ref o)]) hx hb dX1_checksum_75 hl (k := 2) rfl (n_incN j) (by decide) rfl (fun ls hl => ?_)
      refine lv_goto (tgt := 47) hx hb dX1_checksum_78 (by decide) ?_
      exact ih (j + 1) (show (j + 1) ≤ tc.toNatClampNeg from by omega) (show tc.toNatClampNeg - (j + 1) < tc.toNatClampNeg - j by omega) _ (lv_sub hl [2, 1, 0] rfl)
  · have hk2 := n_lt12 hk c_9
    refine lv_ldc2 (own := RX1) (v := 31) hx hb hown (hts (.constantLong RX1 132 (31)) (List.mem_of_getElem? (i := 2) rfl)) dX1_checksum_12 ?_
    refine lv_lload_n hx hb dX1_checksum_15 rfl (lv_at hl 1 rfl) ?_
    refine lv_lmul hx hb dX1_checksum_16 ?_
    refine lv_aload_n hx hb dX1_checksum_17 rfl (lv_at hl 0 rfl) ?_
    refine lv_iload_n hx hb dX1_checksum_18 rfl (lv_at hl 2 rfl) ?_
    refine vp_callSl (va_Run.run (va_runV (As := [.int (nI k)]) (rest := [.long (31 * (f_ck hf bf k))]) ⟨hx, hb, hml, hown, hts⟩ (c_X1_bitsAt l D cI cZ o q1 q2 q3 q4 s.heap.size hf bf (nI k) (vp_in_nI hk2 (by decide)) (n_kH gH hk2)) (cwV 1 hts gX1_checksum_X1_bitsAt rfl rfl rfl (by decide +kernel) ⟨Nat.le_of_ble_eq_true rfl, Nat.le_of_ble_eq_true rfl⟩) ⟨ny_blind, va_recv hK hP (ci := 3) (q0 := 0) rfl rfl, fun U hU hW => ⟨rfl, ny_preU hE hP hK hD hS hA [0, 1, 2] rfl (by decide) rfl [0, 1] rfl U hU hW⟩⟩ rfl rfl hl.1 rfl (lv_room (Nat.le_of_ble_eq_true rfl)) dX1_checksum_19 ⟨Nat.le_of_ble_eq_true rfl, Nat.le_of_ble_eq_true rfl⟩)) (fun r_19 hw_19 => ?_)
    have hw_19 : r_19 = f_bt (hf (nI k).toNatClampNeg) (bf (nI k).toNatClampNeg) := hw_19
    subst hw_19
    refine lv_ladd hx hb dX1_checksum_22 ?_
    refine ny_tl (x2 := f_ck hf bf (k + 1)) (f_ckS hf bf hk2) ?_
    refine lv_lstore_n (lv' := [(1, .long (f_ck hf bf (k + 1))), (0, .ref o), (3, .int (nI k))]) hx hb dX1_checksum_23 rfl hl (by decide) rfl (fun ls hl => ?_)
    refine lv_iinc (v := nI (k + 1)) (lv' := [(3, .int (nI (k + 1))), (1, .long (f_ck hf bf (k + 1))), (0, .ref o)]) hx hb dX1_checksum_24 hl (k := 2) rfl (n_incN k) (by decide) rfl (fun ls hl => ?_)
    refine lv_goto (tgt := 6) hx hb dX1_checksum_27 (by decide) ?_
    exact ih (k + 1) (show (k + 1) ≤ 12 from by omega) (show 12 - (k + 1) < 12 - k by omega) _ (lv_sub hl [2, 1, 0] rfl)
set_option maxHeartbeats 4000000 in
set_option maxRecDepth 100000 in
theorem c_X1_isRestTrue (l : Launch) (x : Int32) (y : Int32) (gx : ny_R x) (gy : ny_R y) (g0 : ¬ y = 0) : Met l yX1_isRestTrue wsX1_isRestTrue ({ frames := 3, cells := 0, slots := 0, locals := 69 }) (va_Pc [.int x, .int y] (fun _ => True)) (vp_Si (fun r => r = 1)) 0 0 (fun _ => False) := by
  refine Met.ofW (cc := cX1_isRestTrue) (maxL := 8) (ret := (some .boolean)) (by decide) rfl ?_
  intro p e s m args below meth c s₁ B hml hv
  obtain ⟨rfl, -⟩ := hv
  have hx := B.exec
  have hb := B.bytes
  have hr := B.returns
  have hts := atoms_spec (ws := wsX1_isRestTrue) B.pre
  have hown : s.vm.findClass RX1 = some m.cls := findClass_of_methodNamed B.named
  have hlocks := B.notSynchronized
  have hl := lv_entry ([.int x, .int y]) (n := 8) (Nat.le_of_ble_eq_true rfl)
  rw [lg_entry_eq]
  generalize (lg_sl ([.int x, .int y]) ++ List.replicate (8 - (lg_sl ([.int x, .int y])).length) Slot.unset).toArray = ls at hl ⊢
  have hl : lv_has ls 8 [(0, .int x), (1, .int y)] := hl
  refine lv_iload_n hx hb dX1_isRestTrue_0 rfl (lv_at hl 0 rfl) ?_
  refine lv_iload_n hx hb dX1_isRestTrue_1 rfl (lv_at hl 1 rfl) ?_
  refine vp_callSi (va_Run.run (va_runS (As := [.int x, .int y]) (rest := []) ⟨hx, hb, hml, hown, hts⟩ (c_X1_restOf l x y (by assumption) (by assumption) (by assumption)) (va_cwS 2 hts gX1_isRestTrue_X1_restOf rfl rfl rfl (by decide +kernel) ⟨Nat.le_of_ble_eq_true rfl, Nat.le_of_ble_eq_true rfl⟩) ⟨ny_blindT, fun U hU hW => ⟨rfl, trivial⟩⟩ rfl rfl hl.1 rfl (lv_room (Nat.le_of_ble_eq_true rfl)) dX1_isRestTrue_2 ⟨Nat.le_of_ble_eq_true rfl, Nat.le_of_ble_eq_true rfl⟩)) (fun r_2 hw_2 => ?_)
  have hw_2 : r_2 = f_re x y := hw_2
  subst hw_2
  refine lv_istore_n (lv' := [(2, .int (f_re x y)), (0, .int x), (1, .int y)]) hx hb dX1_isRestTrue_5 rfl hl (by decide) rfl (fun ls hl => ?_)
  refine lv_iconst (v := 2) hx hb dX1_isRestTrue_6 (by decide) ?_
  refine lv_iload_n hx hb dX1_isRestTrue_7 rfl (lv_at hl 0 rfl) ?_
  refine va_mabs hx hb (hml.trans hl.1.symm) hown (hts (.methodLink RX1 65 Lib.Math.abs.name) (List.mem_of_getElem? (i := 1) rfl)) (hts (.static Lib.Math.abs.name) (List.mem_of_getElem? (i := 2) rfl)) (hts (.initialized "java/lang/Math") (List.mem_of_getElem? (i := 3) rfl)) (hts (.code Lib.Math.abs.name Lib.Math.abs.code 1 (some .int)) (List.mem_of_getElem? (i := 4) rfl)) (Nat.le_of_ble_eq_true rfl) (Nat.le_of_ble_eq_true rfl) (Nat.le_of_ble_eq_true rfl) (Nat.le_of_ble_eq_true rfl) dX1_isRestTrue_8 ?_
  refine W.eq (g2 := F0 m 11 ls [.int (ny_ab (f_re x y)), .int 2]) rfl ?_
  refine lv_imul hx hb dX1_isRestTrue_11 ?_
  refine lv_istore_n (lv' := [(3, .int (2 * (ny_ab (f_re x y)))), (2, .int (f_re x y)), (0, .int x), (1, .int y)]) hx hb dX1_isRestTrue_12 rfl hl (by decide) rfl (fun ls hl => ?_)
  refine lv_iload_n hx hb dX1_isRestTrue_13 rfl (lv_at hl 3 rfl) ?_
  refine va_mabs hx hb (hml.trans hl.1.symm) hown (hts (.methodLink RX1 65 Lib.Math.abs.name) (List.mem_of_getElem? (i := 1) rfl)) (hts (.static Lib.Math.abs.name) (List.mem_of_getElem? (i := 2) rfl)) (hts (.initialized "java/lang/Math") (List.mem_of_getElem? (i := 3) rfl)) (hts (.code Lib.Math.abs.name Lib.Math.abs.code 1 (some .int)) (List.mem_of_getElem? (i := 4) rfl)) (Nat.le_of_ble_eq_true rfl) (Nat.le_of_ble_eq_true rfl) (Nat.le_of_ble_eq_true rfl) (Nat.le_of_ble_eq_true rfl) dX1_isRestTrue_14 ?_
  refine W.eq (g2 := F0 m 17 ls [.int (ny_ab y)]) rfl ?_
  refine lv_istore (lv' := [(4, .int (ny_ab y)), (3, .int (2 * (ny_ab (f_re x y)))), (2, .int (f_re x y)), (0, .int x), (1, .int y)]) hx hb dX1_isRestTrue_17 hl (by decide) rfl (fun ls hl => ?_)
  refine lv_iload_n hx hb dX1_isRestTrue_19 rfl (lv_at hl 1 rfl) ?_
  refine lv_iload hx hb dX1_isRestTrue_20 (lv_at hl 0 rfl) ?_
  refine lv_icmp_lt (tgt := 41) hx hb dX1_isRestTrue_22 (by decide) (fun c_22 => ?_) (fun c_22 => ?_)
  · refine lv_iconst (v := 1) hx hb dX1_isRestTrue_41 (by decide) ?_
    refine lv_goto (tgt := 46) hx hb dX1_isRestTrue_42 (by decide) ?_
    refine lv_istore (lv' := [(5, .int 1), (4, .int (ny_ab y)), (3, .int (2 * (ny_ab (f_re x y)))), (2, .int (f_re x y)), (0, .int x), (1, .int y)]) hx hb dX1_isRestTrue_46 hl (by decide) rfl (fun ls hl => ?_)
    refine lv_iload_n hx hb dX1_isRestTrue_48 rfl (lv_at hl 4 rfl) ?_
    refine lv_iload_n hx hb dX1_isRestTrue_49 rfl (lv_at hl 5 rfl) ?_
    refine lv_ineg hx hb dX1_isRestTrue_50 ?_
    refine vp_callSi (va_Run.run (va_runS (As := [.int x, .int (-y)]) (rest := []) ⟨hx, hb, hml, hown, hts⟩ (c_X1_restOf l x (-y) (by assumption) (ny_R_ng gy) (ny_ng_0 gy g0)) (va_cwS 2 hts gX1_isRestTrue_X1_restOf rfl rfl rfl (by decide +kernel) ⟨Nat.le_of_ble_eq_true rfl, Nat.le_of_ble_eq_true rfl⟩) ⟨ny_blindT, fun U hU hW => ⟨rfl, trivial⟩⟩ rfl rfl hl.1 rfl (lv_room (Nat.le_of_ble_eq_true rfl)) dX1_isRestTrue_51 ⟨Nat.le_of_ble_eq_true rfl, Nat.le_of_ble_eq_true rfl⟩)) (fun r_51 hw_51 => ?_)
    have hw_51 : r_51 = f_re x (-y) := hw_51
    subst hw_51
    refine lv_iload_n hx hb dX1_isRestTrue_54 rfl (lv_at hl 3 rfl) ?_
    refine lv_icmp_ne (tgt := 82) hx hb dX1_isRestTrue_55 (by decide) (fun c_55 => absurd (show ((f_re x (-y)) : Int32) = (f_re x y) from n_t2 gy g0) c_55) (fun c_55 => ?_)
    refine lv_iload_n hx hb dX1_isRestTrue_58 rfl (lv_at hl 4 rfl) ?_
    refine lv_ineg hx hb dX1_isRestTrue_59 ?_
    refine lv_iload_n hx hb dX1_isRestTrue_60 rfl (lv_at hl 5 rfl) ?_
    refine vp_callSi (va_Run.run (va_runS (As := [.int (-x), .int y]) (rest := []) ⟨hx, hb, hml, hown, hts⟩ (c_X1_restOf l (-x) y (ny_R_ng gx) (by assumption) (by assumption)) (va_cwS 2 hts gX1_isRestTrue_X1_restOf rfl rfl rfl (by decide +kernel) ⟨Nat.le_of_ble_eq_true rfl, Nat.le_of_ble_eq_true rfl⟩) ⟨ny_blindT, fun U hU hW => ⟨rfl, trivial⟩⟩ rfl rfl hl.1 rfl (lv_room (Nat.le_of_ble_eq_true rfl)) dX1_isRestTrue_61 ⟨Nat.le_of_ble_eq_true rfl, Nat.le_of_ble_eq_true rfl⟩)) (fun r_61 hw_61 => ?_)
    have hw_61 : r_61 = f_re (-x) y := hw_61
    subst hw_61
    refine lv_iload_n hx hb dX1_isRestTrue_64 rfl (lv_at hl 3 rfl) ?_
    refine lv_ineg hx hb dX1_isRestTrue_65 ?_
    refine lv_icmp_ne (tgt := 82) hx hb dX1_isRestTrue_66 (by decide) (fun c_66 => absurd (show ((f_re (-x) y) : Int32) = (-(f_re x y)) from n_t3 gx gy g0) c_66) (fun c_66 => ?_)
    refine lv_iload_n hx hb dX1_isRestTrue_69 rfl (lv_at hl 3 rfl) ?_
    refine lv_iload_n hx hb dX1_isRestTrue_70 rfl (lv_at hl 5 rfl) ?_
    refine vp_callSi (va_Run.run (va_runS (As := [.int (f_re x y), .int y]) (rest := []) ⟨hx, hb, hml, hown, hts⟩ (c_X1_restOf l (f_re x y) y (ny_R_re gy g0) (by assumption) (by assumption)) (va_cwS 2 hts gX1_isRestTrue_X1_restOf rfl rfl rfl (by decide +kernel) ⟨Nat.le_of_ble_eq_true rfl, Nat.le_of_ble_eq_true rfl⟩) ⟨ny_blindT, fun U hU hW => ⟨rfl, trivial⟩⟩ rfl rfl hl.1 rfl (lv_room (Nat.le_of_ble_eq_true rfl)) dX1_isRestTrue_71 ⟨Nat.le_of_ble_eq_true rfl, Nat.le_of_ble_eq_true rfl⟩)) (fun r_71 hw_71 => ?_)
    have hw_71 : r_71 = f_re (f_re x y) y := hw_71
    subst hw_71
    refine lv_iload_n hx hb dX1_isRestTrue_74 rfl (lv_at hl 3 rfl) ?_
    refine lv_icmp_ne (tgt := 82) hx hb dX1_isRestTrue_75 (by decide) (fun c_75 => absurd (show ((f_re (f_re x y) y) : Int32) = (f_re x y) from n_t4 gy g0) c_75) (fun c_75 => ?_)
    refine lv_iconst (v := 1) hx hb dX1_isRestTrue_78 (by decide) ?_
    refine lv_goto (tgt := 83) hx hb dX1_isRestTrue_79 (by decide) ?_
    refine lv_istore (lv' := [(6, .int 1), (5, .int 1), (4, .int (ny_ab y)), (3, .int (2 * (ny_ab (f_re x y)))), (2, .int (f_re x y)), (0, .int x), (1, .int y)]) hx hb dX1_isRestTrue_83 hl (by decide) rfl (fun ls hl => ?_)
    refine lv_iload_n hx hb dX1_isRestTrue_85 rfl (lv_at hl 4 rfl) ?_
    refine lv_iload_n hx hb dX1_isRestTrue_86 rfl (lv_at hl 5 rfl) ?_
    refine lv_iload_n hx hb dX1_isRestTrue_87 rfl (lv_at hl 6 rfl) ?_
    refine vp_callSi (va_Run.run (va_runS (As := [.int x, .int y]) (rest := [.int (f_re x y)]) ⟨hx, hb, hml, hown, hts⟩ (c_X1_cutOf l x y (by assumption)) (va_cwS 2 hts gX1_isRestTrue_X1_cutOf rfl rfl rfl (by decide +kernel) ⟨Nat.le_of_ble_eq_true rfl, Nat.le_of_ble_eq_true rfl⟩) ⟨ny_blindT, fun U hU hW => ⟨rfl, trivial⟩⟩ rfl rfl hl.1 rfl (lv_room (Nat.le_of_ble_eq_true rfl)) dX1_isRestTrue_88 ⟨Nat.le_of_ble_eq_true rfl, Nat.le_of_ble_eq_true rfl⟩)) (fun r_88 hw_88 => ?_)
    have hw_88 : r_88 = f_cu x y := hw_88
    subst hw_88
    refine lv_isub hx hb dX1_isRestTrue_91 ?_
    refine va_mabs hx hb (hml.trans hl.1.symm) hown (hts (.methodLink RX1 65 Lib.Math.abs.name) (List.mem_of_getElem? (i := 1) rfl)) (hts (.static Lib.Math.abs.name) (List.mem_of_getElem? (i := 2) rfl)) (hts (.initialized "java/lang/Math") (List.mem_of_getElem? (i := 3) rfl)) (hts (.code Lib.Math.abs.name Lib.Math.abs.code 1 (some .int)) (List.mem_of_getElem? (i := 4) rfl)) (Nat.le_of_ble_eq_true rfl) (Nat.le_of_ble_eq_true rfl) (Nat.le_of_ble_eq_true rfl) (Nat.le_of_ble_eq_true rfl) dX1_isRestTrue_92 ?_
    refine W.eq (g2 := F0 m 95 ls [.int (ny_ab ((f_re x y) - (f_cu x y)))]) rfl ?_
    refine lv_istore (lv' := [(7, .int (ny_ab ((f_re x y) - (f_cu x y)))), (6, .int 1), (5, .int 1), (4, .int (ny_ab y)), (3, .int (2 * (ny_ab (f_re x y)))), (2, .int (f_re x y)), (0, .int x), (1, .int y)]) hx hb dX1_isRestTrue_95 hl (by decide) rfl (fun ls hl => ?_)
    refine lv_iload hx hb dX1_isRestTrue_97 (lv_at hl 2 rfl) ?_
    refine lv_if_eq (tgt := 123) hx hb dX1_isRestTrue_99 (by decide) (fun c_99 => absurd c_99 (show ¬ ((1 : Int32) = 0) by  decide)) (fun c_99 => ?_)
    refine lv_iload hx hb dX1_isRestTrue_102 (lv_at hl 1 rfl) ?_
    refine lv_if_eq (tgt := 123) hx hb dX1_isRestTrue_104 (by decide) (fun c_104 => absurd c_104 (show ¬ ((1 : Int32) = 0) by  decide)) (fun c_104 => ?_)
    refine lv_iload hx hb dX1_isRestTrue_107 (lv_at hl 0 rfl) ?_
    refine lv_if_eq (tgt := 119) hx hb dX1_isRestTrue_109 (by decide) (fun c_109 => ?_) (fun c_109 => ?_)
    · refine lv_iconst (v := 1) hx hb dX1_isRestTrue_119 (by decide) ?_
      refine lv_goto (tgt := 124) hx hb dX1_isRestTrue_120 (by decide) ?_
      exact W.zret (v := 1) hx hb hr (by decide) (fun t ht hW => ⟨1, rfl, (rfl), ht⟩) (fun q hq => absurd hq List.not_mem_nil) dX1_isRestTrue_124
    · refine lv_iload hx hb dX1_isRestTrue_112 (lv_at hl 0 rfl) ?_
      refine lv_iload hx hb dX1_isRestTrue_114 (lv_at hl 3 rfl) ?_
      refine lv_icmp_ne (tgt := 123) hx hb dX1_isRestTrue_116 (by decide) (fun c_116 => absurd (show ((ny_ab ((f_re x y) - (f_cu x y))) : Int32) = (ny_ab y) from n_t5 gx gy g0 c_109) c_116) (fun c_116 => ?_)
      refine lv_iconst (v := 1) hx hb dX1_isRestTrue_119 (by decide) ?_
      refine lv_goto (tgt := 124) hx hb dX1_isRestTrue_120 (by decide) ?_
      exact W.zret (v := 1) hx hb hr (by decide) (fun t ht hW => ⟨1, rfl, (rfl), ht⟩) (fun q hq => absurd hq List.not_mem_nil) dX1_isRestTrue_124
  · refine lv_iload_n hx hb dX1_isRestTrue_25 rfl (lv_at hl 1 rfl) ?_
    refine lv_iload hx hb dX1_isRestTrue_26 (lv_at hl 0 rfl) ?_
    refine lv_icmp_ne (tgt := 45) hx hb dX1_isRestTrue_28 (by decide) (fun c_28 => absurd (show ((2 * (ny_ab (f_re x y))) : Int32) = (ny_ab y) from (n_t1 gx gy g0 c_22).1) c_28) (fun c_28 => ?_)
    refine lv_iload_n hx hb dX1_isRestTrue_31 rfl (lv_at hl 3 rfl) ?_
    refine lv_iload_n hx hb dX1_isRestTrue_32 rfl (lv_at hl 4 rfl) ?_
    refine vp_callSi (va_Run.run (va_runS (As := [.int x, .int y]) (rest := []) ⟨hx, hb, hml, hown, hts⟩ (c_X1_nearest l x y (by assumption) (by assumption) (by assumption)) (va_cwS 2 hts gX1_isRestTrue_X1_nearest rfl rfl rfl (by decide +kernel) ⟨Nat.le_of_ble_eq_true rfl, Nat.le_of_ble_eq_true rfl⟩) ⟨ny_blindT, fun U hU hW => ⟨rfl, trivial⟩⟩ rfl rfl hl.1 rfl (lv_room (Nat.le_of_ble_eq_true rfl)) dX1_isRestTrue_33 ⟨Nat.le_of_ble_eq_true rfl, Nat.le_of_ble_eq_true rfl⟩)) (fun r_33 hw_33 => ?_)
    have hw_33 : r_33 = f_nr x y := hw_33
    subst hw_33
    refine lv_iconst (v := 1) hx hb dX1_isRestTrue_36 (by decide) ?_
    refine lv_iand hx hb dX1_isRestTrue_37 ?_
    refine lv_if_ne (tgt := 45) hx hb dX1_isRestTrue_38 (by decide) (fun c_38 => absurd (show (((f_nr x y) &&& 1) : Int32) = 0 from (n_t1 gx gy g0 c_22).2) c_38) (fun c_38 => ?_)
    refine lv_iconst (v := 1) hx hb dX1_isRestTrue_41 (by decide) ?_
    refine lv_goto (tgt := 46) hx hb dX1_isRestTrue_42 (by decide) ?_
    refine lv_istore (lv' := [(5, .int 1), (4, .int (ny_ab y)), (3, .int (2 * (ny_ab (f_re x y)))), (2, .int (f_re x y)), (0, .int x), (1, .int y)]) hx hb dX1_isRestTrue_46 hl (by decide) rfl (fun ls hl => ?_)
    refine lv_iload_n hx hb dX1_isRestTrue_48 rfl (lv_at hl 4 rfl) ?_
    refine lv_iload_n hx hb dX1_isRestTrue_49 rfl (lv_at hl 5 rfl) ?_
    refine lv_ineg hx hb dX1_isRestTrue_50 ?_
    refine vp_callSi (va_Run.run (va_runS (As := [.int x, .int (-y)]) (rest := []) ⟨hx, hb, hml, hown, hts⟩ (c_X1_restOf l x (-y) (by assumption) (ny_R_ng gy) (ny_ng_0 gy g0)) (va_cwS 2 hts gX1_isRestTrue_X1_restOf rfl rfl rfl (by decide +kernel) ⟨Nat.le_of_ble_eq_true rfl, Nat.le_of_ble_eq_true rfl⟩) ⟨ny_blindT, fun U hU hW => ⟨rfl, trivial⟩⟩ rfl rfl hl.1 rfl (lv_room (Nat.le_of_ble_eq_true rfl)) dX1_isRestTrue_51 ⟨Nat.le_of_ble_eq_true rfl, Nat.le_of_ble_eq_true rfl⟩)) (fun r_51 hw_51 => ?_)
    have hw_51 : r_51 = f_re x (-y) := hw_51
    subst hw_51
    refine lv_iload_n hx hb dX1_isRestTrue_54 rfl (lv_at hl 3 rfl) ?_
    refine lv_icmp_ne (tgt := 82) hx hb dX1_isRestTrue_55 (by decide) (fun c_55 => absurd (show ((f_re x (-y)) : Int32) = (f_re x y) from n_t2 gy g0) c_55) (fun c_55 => ?_)
    refine lv_iload_n hx hb dX1_isRestTrue_58 rfl (lv_at hl 4 rfl) ?_
    refine lv_ineg hx hb dX1_isRestTrue_59 ?_
    refine lv_iload_n hx hb dX1_isRestTrue_60 rfl (lv_at hl 5 rfl) ?_
    refine vp_callSi (va_Run.run (va_runS (As := [.int (-x), .int y]) (rest := []) ⟨hx, hb, hml, hown, hts⟩ (c_X1_restOf l (-x) y (ny_R_ng gx) (by assumption) (by assumption)) (va_cwS 2 hts gX1_isRestTrue_X1_restOf rfl rfl rfl (by decide +kernel) ⟨Nat.le_of_ble_eq_true rfl, Nat.le_of_ble_eq_true rfl⟩) ⟨ny_blindT, fun U hU hW => ⟨rfl, trivial⟩⟩ rfl rfl hl.1 rfl (lv_room (Nat.le_of_ble_eq_true rfl)) dX1_isRestTrue_61 ⟨Nat.le_of_ble_eq_true rfl, Nat.le_of_ble_eq_true rfl⟩)) (fun r_61 hw_61 => ?_)
    have hw_61 : r_61 = f_re (-x) y := hw_61
    subst hw_61
    refine lv_iload_n hx hb dX1_isRestTrue_64 rfl (lv_at hl 3 rfl) ?_
    refine lv_ineg hx hb dX1_isRestTrue_65 ?_
    refine lv_icmp_ne (tgt := 82) hx hb dX1_isRestTrue_66 (by decide) (fun c_66 => absurd (show ((f_re (-x) y) : Int32) = (-(f_re x y)) from n_t3 gx gy g0) c_66) (fun c_66 => ?_)
    refine lv_iload_n hx hb dX1_isRestTrue_69 rfl (lv_at hl 3 rfl) ?_
    refine lv_iload_n hx hb dX1_isRestTrue_70 rfl (lv_at hl 5 rfl) ?_
    refine vp_callSi (va_Run.run (va_runS (As := [.int (f_re x y), .int y]) (rest := []) ⟨hx, hb, hml, hown, hts⟩ (c_X1_restOf l (f_re x y) y (ny_R_re gy g0) (by assumption) (by assumption)) (va_cwS 2 hts gX1_isRestTrue_X1_restOf rfl rfl rfl (by decide +kernel) ⟨Nat.le_of_ble_eq_true rfl, Nat.le_of_ble_eq_true rfl⟩) ⟨ny_blindT, fun U hU hW => ⟨rfl, trivial⟩⟩ rfl rfl hl.1 rfl (lv_room (Nat.le_of_ble_eq_true rfl)) dX1_isRestTrue_71 ⟨Nat.le_of_ble_eq_true rfl, Nat.le_of_ble_eq_true rfl⟩)) (fun r_71 hw_71 => ?_)
    have hw_71 : r_71 = f_re (f_re x y) y := hw_71
    subst hw_71
    refine lv_iload_n hx hb dX1_isRestTrue_74 rfl (lv_at hl 3 rfl) ?_
    refine lv_icmp_ne (tgt := 82) hx hb dX1_isRestTrue_75 (by decide) (fun c_75 => absurd (show ((f_re (f_re x y) y) : Int32) = (f_re x y) from n_t4 gy g0) c_75) (fun c_75 => ?_)
    refine lv_iconst (v := 1) hx hb dX1_isRestTrue_78 (by decide) ?_
    refine lv_goto (tgt := 83) hx hb dX1_isRestTrue_79 (by decide) ?_
    refine lv_istore (lv' := [(6, .int 1), (5, .int 1), (4, .int (ny_ab y)), (3, .int (2 * (ny_ab (f_re x y)))), (2, .int (f_re x y)), (0, .int x), (1, .int y)]) hx hb dX1_isRestTrue_83 hl (by decide) rfl (fun ls hl => ?_)
    refine lv_iload_n hx hb dX1_isRestTrue_85 rfl (lv_at hl 4 rfl) ?_
    refine lv_iload_n hx hb dX1_isRestTrue_86 rfl (lv_at hl 5 rfl) ?_
    refine lv_iload_n hx hb dX1_isRestTrue_87 rfl (lv_at hl 6 rfl) ?_
    refine vp_callSi (va_Run.run (va_runS (As := [.int x, .int y]) (rest := [.int (f_re x y)]) ⟨hx, hb, hml, hown, hts⟩ (c_X1_cutOf l x y (by assumption)) (va_cwS 2 hts gX1_isRestTrue_X1_cutOf rfl rfl rfl (by decide +kernel) ⟨Nat.le_of_ble_eq_true rfl, Nat.le_of_ble_eq_true rfl⟩) ⟨ny_blindT, fun U hU hW => ⟨rfl, trivial⟩⟩ rfl rfl hl.1 rfl (lv_room (Nat.le_of_ble_eq_true rfl)) dX1_isRestTrue_88 ⟨Nat.le_of_ble_eq_true rfl, Nat.le_of_ble_eq_true rfl⟩)) (fun r_88 hw_88 => ?_)
    have hw_88 : r_88 = f_cu x y := hw_88
    subst hw_88
    refine lv_isub hx hb dX1_isRestTrue_91 ?_
    refine va_mabs hx hb (hml.trans hl.1.symm) hown (hts (.methodLink RX1 65 Lib.Math.abs.name) (List.mem_of_getElem? (i := 1) rfl)) (hts (.static Lib.Math.abs.name) (List.mem_of_getElem? (i := 2) rfl)) (hts (.initialized "java/lang/Math") (List.mem_of_getElem? (i := 3) rfl)) (hts (.code Lib.Math.abs.name Lib.Math.abs.code 1 (some .int)) (List.mem_of_getElem? (i := 4) rfl)) (Nat.le_of_ble_eq_true rfl) (Nat.le_of_ble_eq_true rfl) (Nat.le_of_ble_eq_true rfl) (Nat.le_of_ble_eq_true rfl) dX1_isRestTrue_92 ?_
    refine W.eq (g2 := F0 m 95 ls [.int (ny_ab ((f_re x y) - (f_cu x y)))]) rfl ?_
    refine lv_istore (lv' := [(7, .int (ny_ab ((f_re x y) - (f_cu x y)))), (6, .int 1), (5, .int 1), (4, .int (ny_ab y)), (3, .int (2 * (ny_ab (f_re x y)))), (2, .int (f_re x y)), (0, .int x), (1, .int y)]) hx hb dX1_isRestTrue_95 hl (by decide) rfl (fun ls hl => ?_)
    refine lv_iload hx hb dX1_isRestTrue_97 (lv_at hl 2 rfl) ?_
    refine lv_if_eq (tgt := 123) hx hb dX1_isRestTrue_99 (by decide) (fun c_99 => absurd c_99 (show ¬ ((1 : Int32) = 0) by  decide)) (fun c_99 => ?_)
    refine lv_iload hx hb dX1_isRestTrue_102 (lv_at hl 1 rfl) ?_
    refine lv_if_eq (tgt := 123) hx hb dX1_isRestTrue_104 (by decide) (fun c_104 => absurd c_104 (show ¬ ((1 : Int32) = 0) by  decide)) (fun c_104 => ?_)
    refine lv_iload hx hb dX1_isRestTrue_107 (lv_at hl 0 rfl) ?_
    refine lv_if_eq (tgt := 119) hx hb dX1_isRestTrue_109 (by decide) (fun c_109 => ?_) (fun c_109 => ?_)
    · refine lv_iconst (v := 1) hx hb dX1_isRestTrue_119 (by decide) ?_
      refine lv_goto (tgt := 124) hx hb dX1_isRestTrue_120 (by decide) ?_
      exact W.zret (v := 1) hx hb hr (by decide) (fun t ht hW => ⟨1, rfl, (rfl), ht⟩) (fun q hq => absurd hq List.not_mem_nil) dX1_isRestTrue_124
    · refine lv_iload hx hb dX1_isRestTrue_112 (lv_at hl 0 rfl) ?_
      refine lv_iload hx hb dX1_isRestTrue_114 (lv_at hl 3 rfl) ?_
      refine lv_icmp_ne (tgt := 123) hx hb dX1_isRestTrue_116 (by decide) (fun c_116 => absurd (show ((ny_ab ((f_re x y) - (f_cu x y))) : Int32) = (ny_ab y) from n_t5 gx gy g0 c_109) c_116) (fun c_116 => ?_)
      refine lv_iconst (v := 1) hx hb dX1_isRestTrue_119 (by decide) ?_
      refine lv_goto (tgt := 124) hx hb dX1_isRestTrue_120 (by decide) ?_
      exact W.zret (v := 1) hx hb hr (by decide) (fun t ht hW => ⟨1, rfl, (rfl), ht⟩) (fun q hq => absurd hq List.not_mem_nil) dX1_isRestTrue_124
set_option maxHeartbeats 4000000 in
set_option maxRecDepth 100000 in
theorem c_X1_isSignTrue (l : Launch) (x : Int32) (u : Int32) (y : Int32) (gx : ny_R x) (gy : ny_R y) (g0 : ¬ y = 0) (gu : ny_B u) : Met l yX1_isSignTrue wsX1_isSignTrue ({ frames := 3, cells := 0, slots := 0, locals := 69 }) (va_Pc [.int x, .int u, .int y] (fun _ => True)) (vp_Si (fun r => r = 1)) 0 0 (fun _ => False) := by
  refine Met.ofW (cc := cX1_isSignTrue) (maxL := 7) (ret := (some .boolean)) (by decide) rfl ?_
  intro p e s m args below meth c s₁ B hml hv
  obtain ⟨rfl, -⟩ := hv
  have hx := B.exec
  have hb := B.bytes
  have hr := B.returns
  have hts := atoms_spec (ws := wsX1_isSignTrue) B.pre
  have hown : s.vm.findClass RX1 = some m.cls := findClass_of_methodNamed B.named
  have hlocks := B.notSynchronized
  have hl := lv_entry ([.int x, .int u, .int y]) (n := 7) (Nat.le_of_ble_eq_true rfl)
  rw [lg_entry_eq]
  generalize (lg_sl ([.int x, .int u, .int y]) ++ List.replicate (7 - (lg_sl ([.int x, .int u, .int y])).length) Slot.unset).toArray = ls at hl ⊢
  have hl : lv_has ls 7 [(0, .int x), (1, .int u), (2, .int y)] := hl
  refine lv_iload_n hx hb dX1_isSignTrue_0 rfl (lv_at hl 0 rfl) ?_
  refine lv_iload_n hx hb dX1_isSignTrue_1 rfl (lv_at hl 2 rfl) ?_
  refine vp_callSi (va_Run.run (va_runS (As := [.int x, .int y]) (rest := []) ⟨hx, hb, hml, hown, hts⟩ (c_X1_restOf l x y (by assumption) (by assumption) (by assumption)) (va_cwS 2 hts gX1_isSignTrue_X1_restOf rfl rfl rfl (by decide +kernel) ⟨Nat.le_of_ble_eq_true rfl, Nat.le_of_ble_eq_true rfl⟩) ⟨ny_blindT, fun U hU hW => ⟨rfl, trivial⟩⟩ rfl rfl hl.1 rfl (lv_room (Nat.le_of_ble_eq_true rfl)) dX1_isSignTrue_2 ⟨Nat.le_of_ble_eq_true rfl, Nat.le_of_ble_eq_true rfl⟩)) (fun r_2 hw_2 => ?_)
  have hw_2 : r_2 = f_re x y := hw_2
  subst hw_2
  refine lv_iload_n hx hb dX1_isSignTrue_5 rfl (lv_at hl 1 rfl) ?_
  refine vp_callSl (va_Run.run (va_runS (As := [.int (f_re x y), .int u]) (rest := []) ⟨hx, hb, hml, hown, hts⟩ (c_X1_bitsOf l (f_re x y) u (ny_R_re gy g0)) (va_cwS 2 hts gX1_isSignTrue_X1_bitsOf rfl rfl rfl (by decide +kernel) ⟨Nat.le_of_ble_eq_true rfl, Nat.le_of_ble_eq_true rfl⟩) ⟨ny_blindT, fun U hU hW => ⟨rfl, trivial⟩⟩ rfl rfl hl.1 rfl (lv_room (Nat.le_of_ble_eq_true rfl)) dX1_isSignTrue_6 ⟨Nat.le_of_ble_eq_true rfl, Nat.le_of_ble_eq_true rfl⟩)) (fun r_6 hw_6 => ?_)
  have hw_6 : r_6 = f_bt (f_re x y) u := hw_6
  subst hw_6
  refine lv_lstore_n (lv' := [(3, .long (f_bt (f_re x y) u)), (0, .int x), (1, .int u), (2, .int y)]) hx hb dX1_isSignTrue_9 rfl hl (by decide) rfl (fun ls hl => ?_)
  refine lv_iload_n hx hb dX1_isSignTrue_10 rfl (lv_at hl 1 rfl) ?_
  refine lv_ineg hx hb dX1_isSignTrue_11 ?_
  refine lv_iload_n hx hb dX1_isSignTrue_12 rfl (lv_at hl 3 rfl) ?_
  refine vp_callSi (va_Run.run (va_runS (As := [.int (-x), .int y]) (rest := []) ⟨hx, hb, hml, hown, hts⟩ (c_X1_restOf l (-x) y (ny_R_ng gx) (by assumption) (by assumption)) (va_cwS 2 hts gX1_isSignTrue_X1_restOf rfl rfl rfl (by decide +kernel) ⟨Nat.le_of_ble_eq_true rfl, Nat.le_of_ble_eq_true rfl⟩) ⟨ny_blindT, fun U hU hW => ⟨rfl, trivial⟩⟩ rfl rfl hl.1 rfl (lv_room (Nat.le_of_ble_eq_true rfl)) dX1_isSignTrue_13 ⟨Nat.le_of_ble_eq_true rfl, Nat.le_of_ble_eq_true rfl⟩)) (fun r_13 hw_13 => ?_)
  have hw_13 : r_13 = f_re (-x) y := hw_13
  subst hw_13
  refine lv_iload_n hx hb dX1_isSignTrue_16 rfl (lv_at hl 2 rfl) ?_
  refine lv_if_ne (tgt := 24) hx hb dX1_isSignTrue_17 (by decide) (fun c_17 => ?_) (fun c_17 => ?_)
  · refine lv_iconst (v := 0) hx hb dX1_isSignTrue_24 (by decide) ?_
    refine vp_callSl (va_Run.run (va_runS (As := [.int (f_re (-x) y), .int 0]) (rest := []) ⟨hx, hb, hml, hown, hts⟩ (c_X1_bitsOf l (f_re (-x) y) 0 (ny_R_re gy g0)) (va_cwS 2 hts gX1_isSignTrue_X1_bitsOf rfl rfl rfl (by decide +kernel) ⟨Nat.le_of_ble_eq_true rfl, Nat.le_of_ble_eq_true rfl⟩) ⟨ny_blindT, fun U hU hW => ⟨rfl, trivial⟩⟩ rfl rfl hl.1 rfl (lv_room (Nat.le_of_ble_eq_true rfl)) dX1_isSignTrue_25 ⟨Nat.le_of_ble_eq_true rfl, Nat.le_of_ble_eq_true rfl⟩)) (fun r_25 hw_25 => ?_)
    have hw_25 : r_25 = f_bt (f_re (-x) y) 0 := hw_25
    subst hw_25
    refine lv_lstore (lv' := [(5, .long (f_bt (f_re (-x) y) 0)), (3, .long (f_bt (f_re x y) u)), (0, .int x), (1, .int u), (2, .int y)]) hx hb dX1_isSignTrue_28 hl (by decide) rfl (fun ls hl => ?_)
    refine lv_lload hx hb dX1_isSignTrue_30 (lv_at hl 0 rfl) ?_
    refine lv_lload_n hx hb dX1_isSignTrue_32 rfl (lv_at hl 1 rfl) ?_
    refine lv_ldc2 (own := RX1) (v := -9223372036854775808) hx hb hown (hts (.constantLong RX1 155 (-9223372036854775808)) (List.mem_of_getElem? (i := 1) rfl)) dX1_isSignTrue_33 ?_
    refine lv_lxor hx hb dX1_isSignTrue_36 ?_
    refine W.lcmp hx hb dX1_isSignTrue_37 ?_
    refine lv_if_ne (tgt := 68) hx hb dX1_isSignTrue_38 (by decide) (fun c_38 => absurd (show ((lg_cmp (f_bt (f_re (-x) y) 0) ((f_bt (f_re x y) u) ^^^ (-9223372036854775808))) : Int32) = 0 from n_lc.mpr (n_sg1 gx gy g0 c_17)) c_38) (fun c_38 => ?_)
    refine lv_iload_n hx hb dX1_isSignTrue_41 rfl (lv_at hl 2 rfl) ?_
    refine lv_iload_n hx hb dX1_isSignTrue_42 rfl (lv_at hl 4 rfl) ?_
    refine vp_callSi (va_Run.run (va_runS (As := [.int x, .int y]) (rest := []) ⟨hx, hb, hml, hown, hts⟩ (c_X1_restOf l x y (by assumption) (by assumption) (by assumption)) (va_cwS 2 hts gX1_isSignTrue_X1_restOf rfl rfl rfl (by decide +kernel) ⟨Nat.le_of_ble_eq_true rfl, Nat.le_of_ble_eq_true rfl⟩) ⟨ny_blindT, fun U hU hW => ⟨rfl, trivial⟩⟩ rfl rfl hl.1 rfl (lv_room (Nat.le_of_ble_eq_true rfl)) dX1_isSignTrue_43 ⟨Nat.le_of_ble_eq_true rfl, Nat.le_of_ble_eq_true rfl⟩)) (fun r_43 hw_43 => ?_)
    have hw_43 : r_43 = f_re x y := hw_43
    subst hw_43
    refine lv_if_ne (tgt := 64) hx hb dX1_isSignTrue_46 (by decide) (fun c_46 => ?_) (fun c_46 => ?_)
    · refine lv_iconst (v := 1) hx hb dX1_isSignTrue_64 (by decide) ?_
      refine lv_goto (tgt := 69) hx hb dX1_isSignTrue_65 (by decide) ?_
      exact W.zret (v := 1) hx hb hr (by decide) (fun t ht hW => ⟨1, rfl, (rfl), ht⟩) (fun q hq => absurd hq List.not_mem_nil) dX1_isSignTrue_69
    · refine lv_lload_n hx hb dX1_isSignTrue_49 rfl (lv_at hl 1 rfl) ?_
      refine lv_lconst (v := 0) hx hb dX1_isSignTrue_50 (by decide) ?_
      refine W.lcmp hx hb dX1_isSignTrue_51 ?_
      refine lv_if_ge (tgt := 59) hx hb dX1_isSignTrue_52 (by decide) (fun c_52 => ?_) (fun c_52 => ?_)
      · refine lv_iconst (v := 0) hx hb dX1_isSignTrue_59 (by decide) ?_
        refine lv_iload_n hx hb dX1_isSignTrue_60 rfl (lv_at hl 3 rfl) ?_
        refine lv_icmp_ne (tgt := 68) hx hb dX1_isSignTrue_61 (by decide) (fun c_61 => absurd (show (0 : Int32) = u from n_sgT c_46 gu c_52) c_61) (fun c_61 => ?_)
        refine lv_iconst (v := 1) hx hb dX1_isSignTrue_64 (by decide) ?_
        refine lv_goto (tgt := 69) hx hb dX1_isSignTrue_65 (by decide) ?_
        exact W.zret (v := 1) hx hb hr (by decide) (fun t ht hW => ⟨1, rfl, (rfl), ht⟩) (fun q hq => absurd hq List.not_mem_nil) dX1_isSignTrue_69
      · refine lv_iconst (v := 1) hx hb dX1_isSignTrue_55 (by decide) ?_
        refine lv_goto (tgt := 60) hx hb dX1_isSignTrue_56 (by decide) ?_
        refine lv_iload_n hx hb dX1_isSignTrue_60 rfl (lv_at hl 3 rfl) ?_
        refine lv_icmp_ne (tgt := 68) hx hb dX1_isSignTrue_61 (by decide) (fun c_61 => absurd (show (1 : Int32) = u from n_sgF c_46 gu c_52) c_61) (fun c_61 => ?_)
        refine lv_iconst (v := 1) hx hb dX1_isSignTrue_64 (by decide) ?_
        refine lv_goto (tgt := 69) hx hb dX1_isSignTrue_65 (by decide) ?_
        exact W.zret (v := 1) hx hb hr (by decide) (fun t ht hW => ⟨1, rfl, (rfl), ht⟩) (fun q hq => absurd hq List.not_mem_nil) dX1_isSignTrue_69
  · refine lv_iconst (v := 1) hx hb dX1_isSignTrue_20 (by decide) ?_
    refine lv_goto (tgt := 25) hx hb dX1_isSignTrue_21 (by decide) ?_
    refine vp_callSl (va_Run.run (va_runS (As := [.int (f_re (-x) y), .int 1]) (rest := []) ⟨hx, hb, hml, hown, hts⟩ (c_X1_bitsOf l (f_re (-x) y) 1 (ny_R_re gy g0)) (va_cwS 2 hts gX1_isSignTrue_X1_bitsOf rfl rfl rfl (by decide +kernel) ⟨Nat.le_of_ble_eq_true rfl, Nat.le_of_ble_eq_true rfl⟩) ⟨ny_blindT, fun U hU hW => ⟨rfl, trivial⟩⟩ rfl rfl hl.1 rfl (lv_room (Nat.le_of_ble_eq_true rfl)) dX1_isSignTrue_25 ⟨Nat.le_of_ble_eq_true rfl, Nat.le_of_ble_eq_true rfl⟩)) (fun r_25 hw_25 => ?_)
    have hw_25 : r_25 = f_bt (f_re (-x) y) 1 := hw_25
    subst hw_25
    refine lv_lstore (lv' := [(5, .long (f_bt (f_re (-x) y) 1)), (3, .long (f_bt (f_re x y) u)), (0, .int x), (1, .int u), (2, .int y)]) hx hb dX1_isSignTrue_28 hl (by decide) rfl (fun ls hl => ?_)
    refine lv_lload hx hb dX1_isSignTrue_30 (lv_at hl 0 rfl) ?_
    refine lv_lload_n hx hb dX1_isSignTrue_32 rfl (lv_at hl 1 rfl) ?_
    refine lv_ldc2 (own := RX1) (v := -9223372036854775808) hx hb hown (hts (.constantLong RX1 155 (-9223372036854775808)) (List.mem_of_getElem? (i := 1) rfl)) dX1_isSignTrue_33 ?_
    refine lv_lxor hx hb dX1_isSignTrue_36 ?_
    refine W.lcmp hx hb dX1_isSignTrue_37 ?_
    refine lv_if_ne (tgt := 68) hx hb dX1_isSignTrue_38 (by decide) (fun c_38 => absurd (show ((lg_cmp (f_bt (f_re (-x) y) 1) ((f_bt (f_re x y) u) ^^^ (-9223372036854775808))) : Int32) = 0 from n_lc.mpr (n_sg0 gx gy g0 c_17)) c_38) (fun c_38 => ?_)
    refine lv_iload_n hx hb dX1_isSignTrue_41 rfl (lv_at hl 2 rfl) ?_
    refine lv_iload_n hx hb dX1_isSignTrue_42 rfl (lv_at hl 4 rfl) ?_
    refine vp_callSi (va_Run.run (va_runS (As := [.int x, .int y]) (rest := []) ⟨hx, hb, hml, hown, hts⟩ (c_X1_restOf l x y (by assumption) (by assumption) (by assumption)) (va_cwS 2 hts gX1_isSignTrue_X1_restOf rfl rfl rfl (by decide +kernel) ⟨Nat.le_of_ble_eq_true rfl, Nat.le_of_ble_eq_true rfl⟩) ⟨ny_blindT, fun U hU hW => ⟨rfl, trivial⟩⟩ rfl rfl hl.1 rfl (lv_room (Nat.le_of_ble_eq_true rfl)) dX1_isSignTrue_43 ⟨Nat.le_of_ble_eq_true rfl, Nat.le_of_ble_eq_true rfl⟩)) (fun r_43 hw_43 => ?_)
    have hw_43 : r_43 = f_re x y := hw_43
    subst hw_43
    refine lv_if_ne (tgt := 64) hx hb dX1_isSignTrue_46 (by decide) (fun c_46 => ?_) (fun c_46 => ?_)
    · refine lv_iconst (v := 1) hx hb dX1_isSignTrue_64 (by decide) ?_
      refine lv_goto (tgt := 69) hx hb dX1_isSignTrue_65 (by decide) ?_
      exact W.zret (v := 1) hx hb hr (by decide) (fun t ht hW => ⟨1, rfl, (rfl), ht⟩) (fun q hq => absurd hq List.not_mem_nil) dX1_isSignTrue_69
    · refine lv_lload_n hx hb dX1_isSignTrue_49 rfl (lv_at hl 1 rfl) ?_
      refine lv_lconst (v := 0) hx hb dX1_isSignTrue_50 (by decide) ?_
      refine W.lcmp hx hb dX1_isSignTrue_51 ?_
      refine lv_if_ge (tgt := 59) hx hb dX1_isSignTrue_52 (by decide) (fun c_52 => ?_) (fun c_52 => ?_)
      · refine lv_iconst (v := 0) hx hb dX1_isSignTrue_59 (by decide) ?_
        refine lv_iload_n hx hb dX1_isSignTrue_60 rfl (lv_at hl 3 rfl) ?_
        refine lv_icmp_ne (tgt := 68) hx hb dX1_isSignTrue_61 (by decide) (fun c_61 => absurd (show (0 : Int32) = u from n_sgT c_46 gu c_52) c_61) (fun c_61 => ?_)
        refine lv_iconst (v := 1) hx hb dX1_isSignTrue_64 (by decide) ?_
        refine lv_goto (tgt := 69) hx hb dX1_isSignTrue_65 (by decide) ?_
        exact W.zret (v := 1) hx hb hr (by decide) (fun t ht hW => ⟨1, rfl, (rfl), ht⟩) (fun q hq => absurd hq List.not_mem_nil) dX1_isSignTrue_69
      · refine lv_iconst (v := 1) hx hb dX1_isSignTrue_55 (by decide) ?_
        refine lv_goto (tgt := 60) hx hb dX1_isSignTrue_56 (by decide) ?_
        refine lv_iload_n hx hb dX1_isSignTrue_60 rfl (lv_at hl 3 rfl) ?_
        refine lv_icmp_ne (tgt := 68) hx hb dX1_isSignTrue_61 (by decide) (fun c_61 => absurd (show (1 : Int32) = u from n_sgF c_46 gu c_52) c_61) (fun c_61 => ?_)
        refine lv_iconst (v := 1) hx hb dX1_isSignTrue_64 (by decide) ?_
        refine lv_goto (tgt := 69) hx hb dX1_isSignTrue_65 (by decide) ?_
        exact W.zret (v := 1) hx hb hr (by decide) (fun t ht hW => ⟨1, rfl, (rfl), ht⟩) (fun q hq => absurd hq List.not_mem_nil) dX1_isSignTrue_69
set_option maxHeartbeats 4000000 in
set_option maxRecDepth 100000 in
theorem c_X1_isClockTrue (l : Launch) (y : Int32) (gy : ny_R y) (g0 : ¬ y = 0) : Met l yX1_isClockTrue wsX1_isClockTrue ({ frames := 2, cells := 0, slots := 0, locals := 48 }) (va_Pc [.int y] (fun _ => True)) (vp_Si (fun r => r = 1)) 0 0 (fun _ => False) := by
  refine Met.ofW (cc := cX1_isClockTrue) (maxL := 4) (ret := (some .boolean)) (by decide) rfl ?_
  intro p e s m args below meth c s₁ B hml hv
  obtain ⟨rfl, -⟩ := hv
  have hx := B.exec
  have hb := B.bytes
  have hr := B.returns
  have hts := atoms_spec (ws := wsX1_isClockTrue) B.pre
  have hown : s.vm.findClass RX1 = some m.cls := findClass_of_methodNamed B.named
  have hlocks := B.notSynchronized
  have hl := lv_entry ([.int y]) (n := 4) (Nat.le_of_ble_eq_true rfl)
  rw [lg_entry_eq]
  generalize (lg_sl ([.int y]) ++ List.replicate (4 - (lg_sl ([.int y])).length) Slot.unset).toArray = ls at hl ⊢
  have hl : lv_has ls 4 [(0, .int y)] := hl
  refine lv_iload_n hx hb dX1_isClockTrue_0 rfl (lv_at hl 0 rfl) ?_
  refine va_mabs hx hb (hml.trans hl.1.symm) hown (hts (.methodLink RX1 65 Lib.Math.abs.name) (List.mem_of_getElem? (i := 1) rfl)) (hts (.static Lib.Math.abs.name) (List.mem_of_getElem? (i := 2) rfl)) (hts (.initialized "java/lang/Math") (List.mem_of_getElem? (i := 3) rfl)) (hts (.code Lib.Math.abs.name Lib.Math.abs.code 1 (some .int)) (List.mem_of_getElem? (i := 4) rfl)) (Nat.le_of_ble_eq_true rfl) (Nat.le_of_ble_eq_true rfl) (Nat.le_of_ble_eq_true rfl) (Nat.le_of_ble_eq_true rfl) dX1_isClockTrue_1 ?_
  refine W.eq (g2 := F0 m 4 ls [.int (ny_ab y)]) rfl ?_
  refine lv_istore_n (lv' := [(1, .int (ny_ab y)), (0, .int y)]) hx hb dX1_isClockTrue_4 rfl hl (by decide) rfl (fun ls hl => ?_)
  refine lv_iconst (v := 0) hx hb dX1_isClockTrue_5 (by decide) ?_
  refine ny_ti (x2 := nI 0) (rfl) ?_
  refine lv_istore_n (lv' := [(2, .int (nI 0)), (1, .int (ny_ab y)), (0, .int y)]) hx hb dX1_isClockTrue_6 rfl hl (by decide) rfl (fun ls hl => ?_)
  refine lv_iload_n hx hb dX1_isClockTrue_7 rfl (lv_at hl 1 rfl) ?_
  refine lv_ineg hx hb dX1_isClockTrue_8 ?_
  refine ny_ti (x2 := Int32.ofInt (((0 : Nat) : Int) - (y.toInt.natAbs : Int))) (n_ct0 gy) ?_
  refine lv_istore_n (lv' := [(3, .int (Int32.ofInt (((0 : Nat) : Int) - (y.toInt.natAbs : Int)))), (2, .int (nI 0)), (1, .int (ny_ab y)), (0, .int y)]) hx hb dX1_isClockTrue_9 rfl hl (by decide) rfl (fun ls hl => ?_)
  refine ny_lp 10 4 (fun u : Nat × Nat => u.1 ≤ 2 * y.toInt.natAbs + 1 ∧ u.2 = ma_ct y.toInt u.1) (fun u => 2 * y.toInt.natAbs + 1 - u.1) (fun u => [(0, .int y), (1, .int (ny_ab y)), (2, .int (nI u.2)), (3, .int (Int32.ofInt ((u.1 : Int) - (y.toInt.natAbs : Int))))]) (fun u hu ih ls hl => ?_) (0, 0) (show 0 ≤ 2 * y.toInt.natAbs + 1 ∧ 0 = ma_ct y.toInt 0 from ⟨Nat.zero_le _, rfl⟩) (lv_sub hl [3, 2, 1, 0] rfl)
  obtain ⟨k, n⟩ := u
  obtain ⟨hk, hn⟩ : k ≤ 2 * y.toInt.natAbs + 1 ∧ n = ma_ct y.toInt k := hu
  have hl : lv_has ls 4 [(0, .int y), (1, .int (ny_ab y)), (2, .int (nI n)), (3, .int (Int32.ofInt ((k : Int) - (y.toInt.natAbs : Int))))] := hl
  refine lv_iload_n hx hb dX1_isClockTrue_10 rfl (lv_at hl 3 rfl) ?_
  refine lv_iload_n hx hb dX1_isClockTrue_11 rfl (lv_at hl 1 rfl) ?_
  refine lv_icmp_gt (tgt := 34) hx hb dX1_isClockTrue_12 (by decide) (fun c_12 => ?_) (fun c_12 => ?_)
  · refine lv_iload_n hx hb dX1_isClockTrue_34 rfl (lv_at hl 2 rfl) ?_
    refine lv_iload_n hx hb dX1_isClockTrue_35 rfl (lv_at hl 1 rfl) ?_
    refine lv_icmp_ne (tgt := 43) hx hb dX1_isClockTrue_36 (by decide) (fun c_36 => absurd (show ((nI n) : Int32) = (ny_ab y) from n_ctE gy g0 hk hn c_12) c_36) (fun c_36 => ?_)
    refine lv_iconst (v := 1) hx hb dX1_isClockTrue_39 (by decide) ?_
    refine lv_goto (tgt := 44) hx hb dX1_isClockTrue_40 (by decide) ?_
    exact W.zret (v := 1) hx hb hr (by decide) (fun t ht hW => ⟨1, rfl, (rfl), ht⟩) (fun q hq => absurd hq List.not_mem_nil) dX1_isClockTrue_44
  · have hk2 := n_ctL gy hk c_12
    refine lv_iload_n hx hb dX1_isClockTrue_15 rfl (lv_at hl 3 rfl) ?_
    refine lv_i2l hx hb dX1_isClockTrue_16 rfl ?_
    refine lv_iload_n hx hb dX1_isClockTrue_17 rfl (lv_at hl 0 rfl) ?_
    refine vp_callSi (va_Run.run (va_runS (As := [.long ((Int32.ofInt ((k : Int) - (y.toInt.natAbs : Int))).toInt64), .int y]) (rest := []) ⟨hx, hb, hml, hown, hts⟩ (c_X1_residueOf l ((Int32.ofInt ((k : Int) - (y.toInt.natAbs : Int))).toInt64) y (by assumption) (by assumption) (n_lo _)) (va_cwS 2 hts gX1_isClockTrue_X1_residueOf rfl rfl rfl (by decide +kernel) ⟨Nat.le_of_ble_eq_true rfl, Nat.le_of_ble_eq_true rfl⟩) ⟨ny_blindT, fun U hU hW => ⟨rfl, trivial⟩⟩ rfl rfl hl.1 rfl (lv_room (Nat.le_of_ble_eq_true rfl)) dX1_isClockTrue_18 ⟨Nat.le_of_ble_eq_true rfl, Nat.le_of_ble_eq_true rfl⟩)) (fun r_18 hw_18 => ?_)
    have hw_18 : r_18 = f_rs ((Int32.ofInt ((k : Int) - (y.toInt.natAbs : Int))).toInt64) y := hw_18
    subst hw_18
    refine lv_iload_n hx hb dX1_isClockTrue_21 rfl (lv_at hl 3 rfl) ?_
    refine lv_icmp_ne (tgt := 28) hx hb dX1_isClockTrue_22 (by decide) (fun c_22 => ?_) (fun c_22 => ?_)
    · refine lv_iinc (v := Int32.ofInt (((k + 1 : Nat) : Int) - (y.toInt.natAbs : Int))) (lv' := [(3, .int (Int32.ofInt (((k + 1 : Nat) : Int) - (y.toInt.natAbs : Int)))), (0, .int y), (1, .int (ny_ab y)), (2, .int (nI n))]) hx hb dX1_isClockTrue_28 hl (k := 3) rfl (n_ctI k _) (by decide) rfl (fun ls hl => ?_)
      refine lv_goto (tgt := 10) hx hb dX1_isClockTrue_31 (by decide) ?_
      exact ih (k + 1, n) (show (k + 1) ≤ 2 * y.toInt.natAbs + 1 ∧ n = ma_ct y.toInt (k + 1) from ⟨by omega, n_ctS0 gy g0 hn hk2 c_22⟩) (show 2 * y.toInt.natAbs + 1 - (k + 1) < 2 * y.toInt.natAbs + 1 - k by omega) _ (lv_sub hl [1, 2, 3, 0] rfl)
    · refine lv_iinc (v := nI (n + 1)) (lv' := [(2, .int (nI (n + 1))), (0, .int y), (1, .int (ny_ab y)), (3, .int (Int32.ofInt ((k : Int) - (y.toInt.natAbs : Int))))]) hx hb dX1_isClockTrue_25 hl (k := 2) rfl (n_incN n) (by decide) rfl (fun ls hl => ?_)
      refine lv_iinc (v := Int32.ofInt (((k + 1 : Nat) : Int) - (y.toInt.natAbs : Int))) (lv' := [(3, .int (Int32.ofInt (((k + 1 : Nat) : Int) - (y.toInt.natAbs : Int)))), (2, .int (nI (n + 1))), (0, .int y), (1, .int (ny_ab y))]) hx hb dX1_isClockTrue_28 hl (k := 3) rfl (n_ctI k _) (by decide) rfl (fun ls hl => ?_)
      refine lv_goto (tgt := 10) hx hb dX1_isClockTrue_31 (by decide) ?_
      exact ih (k + 1, n + 1) (show (k + 1) ≤ 2 * y.toInt.natAbs + 1 ∧ (n + 1) = ma_ct y.toInt (k + 1) from ⟨by omega, n_ctS1 gy g0 hn hk2 c_22⟩) (show 2 * y.toInt.natAbs + 1 - (k + 1) < 2 * y.toInt.natAbs + 1 - k by omega) _ (lv_sub hl [2, 3, 1, 0] rfl)
set_option maxHeartbeats 4000000 in
set_option maxRecDepth 100000 in
theorem c_X1_isResidueTrue (l : Launch) (D : va_G) (cI : ClassId) (o : Nat) (q1 : Nat) (q2 : Nat) (q3 : Nat) (q4 : Nat) (q6 : Nat) (sz : Nat) (sr : Nat → Int32) (sc : Int32) (sl : Int32) (se : Int32) (i0 : Int32) (i1 : Int32) (gx : ny_R i0) (gy : ny_R i1) (g0 : ¬ i1 = 0) : Met l yX1_isResidueTrue wsX1_isResidueTrue ({ frames := 4, cells := 0, slots := 0, locals := 97 }) (va_Pc [.ref o, .int i0, .int i1] (ny_pre D [(cI, .int)] [(o, .inr (3, [.ref q1, .ref q2, .ref q3, .ref q4])), (q4, .inr (2, [.ref q6, .int sc, .int sl, .int se])), (q6, .inl (cI, 7, .inl sr))] sz)) (va_Qi (fun (r : Int32) (u : Unit) => r = 1) (fun (u : Unit) t => ny_at D [(cI, .int)] (va_A [(o, .inr (3, [.ref q1, .ref q2, .ref q3, .ref q4])), (q4, .inr (2, [.ref q6, .int sc, .int sl, .int se])), (q6, .inl (cI, 7, .inl sr))] sz) [(o, .inr (3, [.ref q1, .ref q2, .ref q3, .ref q4])), (q4, .inr (2, [.ref q6, .int (nI (f_ln i0 i1)), .int (f_la i0 i1), .int 1])), (q6, .inl (cI, 7, .inl (f_row (f_row sr i0 i1 (f_ln i0 i1)) i0 i1 (f_ln i0 i1))))] t) (va_A [(o, .inr (3, [.ref q1, .ref q2, .ref q3, .ref q4])), (q4, .inr (2, [.ref q6, .int sc, .int sl, .int se])), (q6, .inl (cI, 7, .inl sr))] sz)) 0 0 (va_A [(o, .inr (3, [.ref q1, .ref q2, .ref q3, .ref q4])), (q4, .inr (2, [.ref q6, .int sc, .int sl, .int se])), (q6, .inl (cI, 7, .inl sr))] sz) := by
  refine Met.ofW (cc := cX1_isResidueTrue) (maxL := 7) (ret := (some .boolean)) (by decide) rfl ?_
  intro p e s m args below meth c s₁ B hml hv
  obtain ⟨rfl, hsz, hP, hK, hD0, hE⟩ := hv
  have hx := B.exec
  have hb := B.bytes
  have hr := B.returns
  have hts := atoms_spec (ws := wsX1_isResidueTrue) B.pre
  have hown : s.vm.findClass RX1 = some m.cls := findClass_of_methodNamed B.named
  have hlocks := B.notSynchronized
  subst hsz
  have hD := hD0.self (sz := s.heap.size)
  generalize hAe : va_A [(o, .inr (3, [.ref q1, .ref q2, .ref q3, .ref q4])), (q4, .inr (2, [.ref q6, .int sc, .int sl, .int se])), (q6, .inl (cI, 7, .inl sr))] s.heap.size = A at hD hE ⊢
  have hA : ∀ q : Nat, s.heap.size ≤ q → A q := fun q h => by rw [← hAe]; exact Or.inr h
  have hS : va_S A s.heap s.heap [] := va_S.rf
  have hl := lv_entry ([.ref o, .int i0, .int i1]) (n := 7) (Nat.le_of_ble_eq_true rfl)
  rw [lg_entry_eq]
  generalize (lg_sl ([.ref o, .int i0, .int i1]) ++ List.replicate (7 - (lg_sl ([.ref o, .int i0, .int i1])).length) Slot.unset).toArray = ls at hl ⊢
  have hl : lv_has ls 7 [(0, .ref o), (1, .int i0), (2, .int i1)] := hl
  refine lv_iload_n hx hb dX1_isResidueTrue_0 rfl (lv_at hl 1 rfl) ?_
  refine lv_i2l hx hb dX1_isResidueTrue_1 rfl ?_
  refine lv_iload_n hx hb dX1_isResidueTrue_2 rfl (lv_at hl 2 rfl) ?_
  refine vp_callSi (va_Run.run (va_runS (As := [.long i0.toInt64, .int i1]) (rest := []) ⟨hx, hb, hml, hown, hts⟩ (c_X1_residueOf l i0.toInt64 i1 (by assumption) (by assumption) (n_lo _)) (va_cwS 2 hts gX1_isResidueTrue_X1_residueOf rfl rfl rfl (by decide +kernel) ⟨Nat.le_of_ble_eq_true rfl, Nat.le_of_ble_eq_true rfl⟩) ⟨ny_blindT, fun U hU hW => ⟨rfl, trivial⟩⟩ rfl rfl hl.1 rfl (lv_room (Nat.le_of_ble_eq_true rfl)) dX1_isResidueTrue_3 ⟨Nat.le_of_ble_eq_true rfl, Nat.le_of_ble_eq_true rfl⟩)) (fun r_3 hw_3 => ?_)
  have hw_3 : r_3 = f_rs i0.toInt64 i1 := hw_3
  subst hw_3
  refine lv_istore_n (lv' := [(3, .int (f_rs i0.toInt64 i1)), (0, .ref o), (1, .int i0), (2, .int i1)]) hx hb dX1_isResidueTrue_6 rfl hl (by decide) rfl (fun ls hl => ?_)
  refine lv_iload_n hx hb dX1_isResidueTrue_7 rfl (lv_at hl 3 rfl) ?_
  refine va_mabs hx hb (hml.trans hl.1.symm) hown (hts (.methodLink RX1 65 Lib.Math.abs.name) (List.mem_of_getElem? (i := 1) rfl)) (hts (.static Lib.Math.abs.name) (List.mem_of_getElem? (i := 2) rfl)) (hts (.initialized "java/lang/Math") (List.mem_of_getElem? (i := 3) rfl)) (hts (.code Lib.Math.abs.name Lib.Math.abs.code 1 (some .int)) (List.mem_of_getElem? (i := 4) rfl)) (Nat.le_of_ble_eq_true rfl) (Nat.le_of_ble_eq_true rfl) (Nat.le_of_ble_eq_true rfl) (Nat.le_of_ble_eq_true rfl) dX1_isResidueTrue_8 ?_
  refine W.eq (g2 := F0 m 11 ls [.int (ny_ab i1)]) rfl ?_
  refine lv_istore (lv' := [(4, .int (ny_ab i1)), (3, .int (f_rs i0.toInt64 i1)), (0, .ref o), (1, .int i0), (2, .int i1)]) hx hb dX1_isResidueTrue_11 hl (by decide) rfl (fun ls hl => ?_)
  refine lv_iconst (v := 2) hx hb dX1_isResidueTrue_13 (by decide) ?_
  refine lv_iload_n hx hb dX1_isResidueTrue_14 rfl (lv_at hl 1 rfl) ?_
  refine lv_imul hx hb dX1_isResidueTrue_15 ?_
  refine lv_iload hx hb dX1_isResidueTrue_16 (lv_at hl 0 rfl) ?_
  refine lv_ineg hx hb dX1_isResidueTrue_18 ?_
  refine lv_icmp_le (tgt := 44) hx hb dX1_isResidueTrue_19 (by decide) (fun c_19 => absurd c_19 (show ¬ (((2 * (f_rs i0.toInt64 i1)) : Int32) ≤ (-(ny_ab i1))) from (n_r5 gy g0).1)) (fun c_19 => ?_)
  refine lv_iconst (v := 2) hx hb dX1_isResidueTrue_22 (by decide) ?_
  refine lv_iload_n hx hb dX1_isResidueTrue_23 rfl (lv_at hl 1 rfl) ?_
  refine lv_imul hx hb dX1_isResidueTrue_24 ?_
  refine lv_iload hx hb dX1_isResidueTrue_25 (lv_at hl 0 rfl) ?_
  refine lv_icmp_gt (tgt := 44) hx hb dX1_isResidueTrue_27 (by decide) (fun c_27 => absurd c_27 (show ¬ (((ny_ab i1) : Int32) < (2 * (f_rs i0.toInt64 i1))) from (n_r5 gy g0).2)) (fun c_27 => ?_)
  refine lv_iload_n hx hb dX1_isResidueTrue_30 rfl (lv_at hl 3 rfl) ?_
  refine lv_iload_n hx hb dX1_isResidueTrue_31 rfl (lv_at hl 1 rfl) ?_
  refine lv_isub hx hb dX1_isResidueTrue_32 ?_
  refine lv_iload_n hx hb dX1_isResidueTrue_33 rfl (lv_at hl 4 rfl) ?_
  refine vp_callSi (va_Run.run (va_runS (As := [.int (i0 - (f_rs i0.toInt64 i1)), .int i1]) (rest := []) ⟨hx, hb, hml, hown, hts⟩ (c_X1_cutOf l (i0 - (f_rs i0.toInt64 i1)) i1 (by assumption)) (va_cwS 2 hts gX1_isResidueTrue_X1_cutOf rfl rfl rfl (by decide +kernel) ⟨Nat.le_of_ble_eq_true rfl, Nat.le_of_ble_eq_true rfl⟩) ⟨ny_blindT, fun U hU hW => ⟨rfl, trivial⟩⟩ rfl rfl hl.1 rfl (lv_room (Nat.le_of_ble_eq_true rfl)) dX1_isResidueTrue_34 ⟨Nat.le_of_ble_eq_true rfl, Nat.le_of_ble_eq_true rfl⟩)) (fun r_34 hw_34 => ?_)
  have hw_34 : r_34 = f_cu (i0 - (f_rs i0.toInt64 i1)) i1 := hw_34
  subst hw_34
  refine lv_if_ne (tgt := 44) hx hb dX1_isResidueTrue_37 (by decide) (fun c_37 => absurd (show ((f_cu (i0 - (f_rs i0.toInt64 i1)) i1) : Int32) = 0 from n_r6 gx gy g0) c_37) (fun c_37 => ?_)
  refine lv_iconst (v := 1) hx hb dX1_isResidueTrue_40 (by decide) ?_
  refine lv_goto (tgt := 45) hx hb dX1_isResidueTrue_41 (by decide) ?_
  refine lv_istore (lv' := [(5, .int 1), (4, .int (ny_ab i1)), (3, .int (f_rs i0.toInt64 i1)), (0, .ref o), (1, .int i0), (2, .int i1)]) hx hb dX1_isResidueTrue_45 hl (by decide) rfl (fun ls hl => ?_)
  refine lv_aload_n hx hb dX1_isResidueTrue_47 rfl (lv_at hl 3 rfl) ?_
  refine lv_iload_n hx hb dX1_isResidueTrue_48 rfl (lv_at hl 4 rfl) ?_
  refine lv_iload_n hx hb dX1_isResidueTrue_49 rfl (lv_at hl 5 rfl) ?_
  refine ny_i (wc := [(o, .inr (3, [.ref q1, .ref q2, .ref q3, .ref q4])), (q4, .inr (2, [.ref q6, .int sc, .int sl, .int se])), (q6, .inl (cI, 7, .inl sr))]) (wr := []) hP hD hS hA [0, 1, 2] [] rfl rfl (by decide) (by decide) (va_runV (As := [.int i0, .int i1]) (rest := []) ⟨hx, hb, hml, hown, hts⟩ (c_X1_inverseOf l D cI o q1 q2 q3 q4 q6 s.heap.size sr sc sl se i0 i1 (by assumption) (by assumption) (by assumption)) (cwV 2 hts gX1_isResidueTrue_X1_inverseOf rfl rfl rfl (by decide +kernel) ⟨Nat.le_of_ble_eq_true rfl, Nat.le_of_ble_eq_true rfl⟩) ⟨ny_blind, va_recv hK hP (ci := 3) (q0 := 0) rfl rfl, fun U hU hW => ⟨rfl, ny_preU hE hP hK hD hS hA [0, 1, 2] rfl (by decide) rfl [0] rfl U hU hW⟩⟩ rfl rfl hl.1 rfl (lv_room (Nat.le_of_ble_eq_true rfl)) dX1_isResidueTrue_50 ⟨Nat.le_of_ble_eq_true rfl, Nat.le_of_ble_eq_true rfl⟩) (fun r_50 u H locs hw_50 hP hD hS => ?_)
  have hP : va_P D vwCl [(o, .inr (3, [.ref q1, .ref q2, .ref q3, .ref q4])), (q4, .inr (2, [.ref q6, .int (nI (f_ln i0 i1)), .int (f_la i0 i1), .int 1])), (q6, .inl (cI, 7, .inl (f_row sr i0 i1 (f_ln i0 i1))))] H := hP
  have hD : va_D A [(o, .inr (3, [.ref q1, .ref q2, .ref q3, .ref q4])), (q4, .inr (2, [.ref q6, .int (nI (f_ln i0 i1)), .int (f_la i0 i1), .int 1])), (q6, .inl (cI, 7, .inl (f_row sr i0 i1 (f_ln i0 i1))))] := hD
  have hw_50 : r_50 = f_iv i0 i1 := hw_50
  subst hw_50
  refine lv_sipush (v := 128) hx hb dX1_isResidueTrue_53 (by decide) ?_
  refine lv_icmp_eq (tgt := 63) hx hb dX1_isResidueTrue_56 (by decide) (fun c_56 => ?_) (fun c_56 => ?_)
  · refine lv_iconst (v := 0) hx hb dX1_isResidueTrue_63 (by decide) ?_
    refine lv_istore (lv' := [(6, .int 0), (5, .int 1), (4, .int (ny_ab i1)), (3, .int (f_rs i0.toInt64 i1)), (0, .ref o), (1, .int i0), (2, .int i1)]) hx hb dX1_isResidueTrue_64 hl (by decide) rfl (fun ls hl => ?_)
    refine lv_iload hx hb dX1_isResidueTrue_66 (lv_at hl 1 rfl) ?_
    refine lv_if_eq (tgt := 95) hx hb dX1_isResidueTrue_68 (by decide) (fun c_68 => absurd c_68 (show ¬ ((1 : Int32) = 0) by  decide)) (fun c_68 => ?_)
    refine lv_iload hx hb dX1_isResidueTrue_71 (lv_at hl 0 rfl) ?_
    refine lv_aload_n hx hb dX1_isResidueTrue_73 rfl (lv_at hl 4 rfl) ?_
    refine lv_iload_n hx hb dX1_isResidueTrue_74 rfl (lv_at hl 5 rfl) ?_
    refine lv_iload_n hx hb dX1_isResidueTrue_75 rfl (lv_at hl 6 rfl) ?_
    refine ny_i (wc := [(o, .inr (3, [.ref q1, .ref q2, .ref q3, .ref q4])), (q4, .inr (2, [.ref q6, .int (nI (f_ln i0 i1)), .int (f_la i0 i1), .int 1])), (q6, .inl (cI, 7, .inl (f_row sr i0 i1 (f_ln i0 i1))))]) (wr := []) hP hD hS hA [0, 1, 2] [] rfl rfl (by decide) (by decide) (va_runV (As := [.int i0, .int i1]) (rest := [.int 0]) ⟨hx, hb, hml, hown, hts⟩ (c_X1_measureOf l D cI o q1 q2 q3 q4 q6 H.size (f_row sr i0 i1 (f_ln i0 i1)) (nI (f_ln i0 i1)) (f_la i0 i1) 1 i0 i1 (by assumption) (by assumption)) (cwV 2 hts gX1_isResidueTrue_X1_measureOf rfl rfl rfl (by decide +kernel) ⟨Nat.le_of_ble_eq_true rfl, Nat.le_of_ble_eq_true rfl⟩) ⟨ny_blind, va_recv hK hP (ci := 3) (q0 := 0) rfl rfl, fun U hU hW => ⟨rfl, ny_preU hE hP hK hD hS hA [0, 1, 2] rfl (by decide) rfl [0] rfl U hU hW⟩⟩ rfl rfl hl.1 rfl (lv_room (Nat.le_of_ble_eq_true rfl)) dX1_isResidueTrue_76 ⟨Nat.le_of_ble_eq_true rfl, Nat.le_of_ble_eq_true rfl⟩) (fun r_76 u H locs hw_76 hP hD hS => ?_)
    have hP : va_P D vwCl [(o, .inr (3, [.ref q1, .ref q2, .ref q3, .ref q4])), (q4, .inr (2, [.ref q6, .int (nI (f_ln i0 i1)), .int (f_la i0 i1), .int 1])), (q6, .inl (cI, 7, .inl (f_row (f_row sr i0 i1 (f_ln i0 i1)) i0 i1 (f_ln i0 i1))))] H := hP
    have hD : va_D A [(o, .inr (3, [.ref q1, .ref q2, .ref q3, .ref q4])), (q4, .inr (2, [.ref q6, .int (nI (f_ln i0 i1)), .int (f_la i0 i1), .int 1])), (q6, .inl (cI, 7, .inl (f_row (f_row sr i0 i1 (f_ln i0 i1)) i0 i1 (f_ln i0 i1))))] := hD
    have hw_76 : r_76 = f_gd i0 i1 := hw_76
    subst hw_76
    refine lv_iconst (v := 1) hx hb dX1_isResidueTrue_79 (by decide) ?_
    refine lv_icmp_ne (tgt := 87) hx hb dX1_isResidueTrue_80 (by decide) (fun c_80 => ?_) (fun c_80 => absurd c_80 (show ¬ (((f_gd i0 i1) : Int32) = 1) from (n_iv128 gx gy g0).mp c_56))
    refine lv_iconst (v := 0) hx hb dX1_isResidueTrue_87 (by decide) ?_
    refine lv_icmp_ne (tgt := 95) hx hb dX1_isResidueTrue_88 (by decide) (fun c_88 => absurd (show (0 : Int32) = 0 by  decide) c_88) (fun c_88 => ?_)
    refine lv_iconst (v := 1) hx hb dX1_isResidueTrue_91 (by decide) ?_
    refine lv_goto (tgt := 96) hx hb dX1_isResidueTrue_92 (by decide) ?_
    have hP9 := hP.sub (ws' := [(o, .inr (3, [.ref q1, .ref q2, .ref q3, .ref q4])), (q4, .inr (2, [.ref q6, .int (nI (f_ln i0 i1)), .int (f_la i0 i1), .int 1])), (q6, .inl (cI, 7, .inl (f_row (f_row sr i0 i1 (f_ln i0 i1)) i0 i1 (f_ln i0 i1))))]) [0, 1, 2] rfl
    have hD9 := hD.sub (ws' := [(o, .inr (3, [.ref q1, .ref q2, .ref q3, .ref q4])), (q4, .inr (2, [.ref q6, .int (nI (f_ln i0 i1)), .int (f_la i0 i1), .int 1])), (q6, .inl (cI, 7, .inl (f_row (f_row sr i0 i1 (f_ln i0 i1)) i0 i1 (f_ln i0 i1))))]) [0, 1, 2] (by decide) rfl
    exact W.zret (v := 1) hx hb hr (by decide) (fun t ht hW => ⟨⟨1, (), rfl, (rfl), by rw [ht]; exact hP9, va_K.moved hW.alike hK, hD9⟩, hS.F ht⟩) hS.2.2 dX1_isResidueTrue_96
  · refine lv_iconst (v := 1) hx hb dX1_isResidueTrue_59 (by decide) ?_
    refine lv_goto (tgt := 64) hx hb dX1_isResidueTrue_60 (by decide) ?_
    refine lv_istore (lv' := [(6, .int 1), (5, .int 1), (4, .int (ny_ab i1)), (3, .int (f_rs i0.toInt64 i1)), (0, .ref o), (1, .int i0), (2, .int i1)]) hx hb dX1_isResidueTrue_64 hl (by decide) rfl (fun ls hl => ?_)
    refine lv_iload hx hb dX1_isResidueTrue_66 (lv_at hl 1 rfl) ?_
    refine lv_if_eq (tgt := 95) hx hb dX1_isResidueTrue_68 (by decide) (fun c_68 => absurd c_68 (show ¬ ((1 : Int32) = 0) by  decide)) (fun c_68 => ?_)
    refine lv_iload hx hb dX1_isResidueTrue_71 (lv_at hl 0 rfl) ?_
    refine lv_aload_n hx hb dX1_isResidueTrue_73 rfl (lv_at hl 4 rfl) ?_
    refine lv_iload_n hx hb dX1_isResidueTrue_74 rfl (lv_at hl 5 rfl) ?_
    refine lv_iload_n hx hb dX1_isResidueTrue_75 rfl (lv_at hl 6 rfl) ?_
    refine ny_i (wc := [(o, .inr (3, [.ref q1, .ref q2, .ref q3, .ref q4])), (q4, .inr (2, [.ref q6, .int (nI (f_ln i0 i1)), .int (f_la i0 i1), .int 1])), (q6, .inl (cI, 7, .inl (f_row sr i0 i1 (f_ln i0 i1))))]) (wr := []) hP hD hS hA [0, 1, 2] [] rfl rfl (by decide) (by decide) (va_runV (As := [.int i0, .int i1]) (rest := [.int 1]) ⟨hx, hb, hml, hown, hts⟩ (c_X1_measureOf l D cI o q1 q2 q3 q4 q6 H.size (f_row sr i0 i1 (f_ln i0 i1)) (nI (f_ln i0 i1)) (f_la i0 i1) 1 i0 i1 (by assumption) (by assumption)) (cwV 2 hts gX1_isResidueTrue_X1_measureOf rfl rfl rfl (by decide +kernel) ⟨Nat.le_of_ble_eq_true rfl, Nat.le_of_ble_eq_true rfl⟩) ⟨ny_blind, va_recv hK hP (ci := 3) (q0 := 0) rfl rfl, fun U hU hW => ⟨rfl, ny_preU hE hP hK hD hS hA [0, 1, 2] rfl (by decide) rfl [0] rfl U hU hW⟩⟩ rfl rfl hl.1 rfl (lv_room (Nat.le_of_ble_eq_true rfl)) dX1_isResidueTrue_76 ⟨Nat.le_of_ble_eq_true rfl, Nat.le_of_ble_eq_true rfl⟩) (fun r_76 u H locs hw_76 hP hD hS => ?_)
    have hP : va_P D vwCl [(o, .inr (3, [.ref q1, .ref q2, .ref q3, .ref q4])), (q4, .inr (2, [.ref q6, .int (nI (f_ln i0 i1)), .int (f_la i0 i1), .int 1])), (q6, .inl (cI, 7, .inl (f_row (f_row sr i0 i1 (f_ln i0 i1)) i0 i1 (f_ln i0 i1))))] H := hP
    have hD : va_D A [(o, .inr (3, [.ref q1, .ref q2, .ref q3, .ref q4])), (q4, .inr (2, [.ref q6, .int (nI (f_ln i0 i1)), .int (f_la i0 i1), .int 1])), (q6, .inl (cI, 7, .inl (f_row (f_row sr i0 i1 (f_ln i0 i1)) i0 i1 (f_ln i0 i1))))] := hD
    have hw_76 : r_76 = f_gd i0 i1 := hw_76
    subst hw_76
    refine lv_iconst (v := 1) hx hb dX1_isResidueTrue_79 (by decide) ?_
    refine lv_icmp_ne (tgt := 87) hx hb dX1_isResidueTrue_80 (by decide) (fun c_80 => absurd (show ((f_gd i0 i1) : Int32) = 1 from Decidable.not_not.mp (fun q => c_56 ((n_iv128 gx gy g0).mpr q))) c_80) (fun c_80 => ?_)
    refine lv_iconst (v := 1) hx hb dX1_isResidueTrue_83 (by decide) ?_
    refine lv_goto (tgt := 88) hx hb dX1_isResidueTrue_84 (by decide) ?_
    refine lv_icmp_ne (tgt := 95) hx hb dX1_isResidueTrue_88 (by decide) (fun c_88 => absurd (show (1 : Int32) = 1 by  decide) c_88) (fun c_88 => ?_)
    refine lv_iconst (v := 1) hx hb dX1_isResidueTrue_91 (by decide) ?_
    refine lv_goto (tgt := 96) hx hb dX1_isResidueTrue_92 (by decide) ?_
    have hP9 := hP.sub (ws' := [(o, .inr (3, [.ref q1, .ref q2, .ref q3, .ref q4])), (q4, .inr (2, [.ref q6, .int (nI (f_ln i0 i1)), .int (f_la i0 i1), .int 1])), (q6, .inl (cI, 7, .inl (f_row (f_row sr i0 i1 (f_ln i0 i1)) i0 i1 (f_ln i0 i1))))]) [0, 1, 2] rfl
    have hD9 := hD.sub (ws' := [(o, .inr (3, [.ref q1, .ref q2, .ref q3, .ref q4])), (q4, .inr (2, [.ref q6, .int (nI (f_ln i0 i1)), .int (f_la i0 i1), .int 1])), (q6, .inl (cI, 7, .inl (f_row (f_row sr i0 i1 (f_ln i0 i1)) i0 i1 (f_ln i0 i1))))]) [0, 1, 2] (by decide) rfl
    exact W.zret (v := 1) hx hb hr (by decide) (fun t ht hW => ⟨⟨1, (), rfl, (rfl), by rw [ht]; exact hP9, va_K.moved hW.alike hK, hD9⟩, hS.F ht⟩) hS.2.2 dX1_isResidueTrue_96
theorem in_X1_isRingTrue_X1 : ∀ w ∈ wsX10, w ∈ wsX1_isRingTrue := (fun _ h => List.mem_cons_of_mem _ (List.mem_append_left _ (List.mem_append_left _ (List.mem_append_right _ h))))
set_option maxHeartbeats 4000000 in
set_option maxRecDepth 100000 in
theorem c_X1_isRingTrue (l : Launch) (D : va_G) (cI : ClassId) (cZ : ClassId) (o : Nat) (q1 : Nat) (q2 : Nat) (q3 : Nat) (q4 : Nat) (sz : Nat) (hf : Nat → Int32) (bf : Nat → Int32) (i0 : Int32) (i1 : Int32) (gp0 : vp_in i0 12) (gH : ny_H hf) (gy : ny_R i1) (g0 : ¬ i1 = 0) : Met l yX1_isRingTrue wsX1_isRingTrue ({ frames := 2, cells := 0, slots := 0, locals := 48 }) (va_Pc [.ref o, .int i0, .int i1] (ny_pre D [(cI, .int), (cZ, .boolean)] [(o, .inr (3, [.ref q1, .ref q2, .ref q3, .ref q4])), (q1, .inl (cI, 12, .inl hf)), (q2, .inl (cZ, 12, .inl bf))] sz)) (vp_Si (fun r => r = 1)) 0 0 (fun _ => False) := by
  refine Met.ofW (cc := cX1_isRingTrue) (maxL := 10) (ret := (some .boolean)) (by decide) rfl ?_
  intro p e s m args below meth c s₁ B hml hv
  obtain ⟨rfl, hsz, hP, hK, hD0, hE⟩ := hv
  have hx := B.exec
  have hb := B.bytes
  have hr := B.returns
  have hts := atoms_spec (ws := wsX1_isRingTrue) B.pre
  have hown : s.vm.findClass RX1 = some m.cls := findClass_of_methodNamed B.named
  have hlocks := B.notSynchronized
  subst hsz
  have hD := hD0.self (sz := s.heap.size)
  generalize hAe : va_A [(o, .inr (3, [.ref q1, .ref q2, .ref q3, .ref q4])), (q1, .inl (cI, 12, .inl hf)), (q2, .inl (cZ, 12, .inl bf))] s.heap.size = A at hD hE
  have hA : ∀ q : Nat, s.heap.size ≤ q → A q := fun q h => by rw [← hAe]; exact Or.inr h
  have hS : va_S A s.heap s.heap [] := va_S.rf
  have hl := lv_entry ([.ref o, .int i0, .int i1]) (n := 10) (Nat.le_of_ble_eq_true rfl)
  rw [lg_entry_eq]
  generalize (lg_sl ([.ref o, .int i0, .int i1]) ++ List.replicate (10 - (lg_sl ([.ref o, .int i0, .int i1])).length) Slot.unset).toArray = ls at hl ⊢
  have hl : lv_has ls 10 [(0, .ref o), (1, .int i0), (2, .int i1)] := hl
  refine lv_aload_n hx hb dX1_isRingTrue_0 rfl (lv_at hl 0 rfl) ?_
  refine va_get (D := D) (ci := 3) (v := .ref q1) (C := RX1) (T := TX1) (N := 4) hx hb hts in_X1_isRingTrue_X1 hown hK hP 0 rfl rfl 0 (by decide) (hts (.fieldLink RX1 9 "Nearestclock" "held" "[I") (List.mem_of_getElem? (i := 1) rfl)) (fun _ h9 => h9) rfl dX1_isRingTrue_1 ?_
  refine lv_iload_n hx hb dX1_isRingTrue_4 rfl (lv_at hl 1 rfl) ?_
  refine va_iald hx hb hK hP 1 0 rfl rfl (by assumption) dX1_isRingTrue_5 ?_
  refine lv_istore_n (lv' := [(3, .int (hf i0.toNatClampNeg)), (0, .ref o), (1, .int i0), (2, .int i1)]) hx hb dX1_isRingTrue_6 rfl hl (by decide) rfl (fun ls hl => ?_)
  refine lv_iload_n hx hb dX1_isRingTrue_7 rfl (lv_at hl 0 rfl) ?_
  refine lv_i2l hx hb dX1_isRingTrue_8 rfl ?_
  refine lv_iload_n hx hb dX1_isRingTrue_9 rfl (lv_at hl 3 rfl) ?_
  refine vp_callSi (va_Run.run (va_runS (As := [.long ((hf i0.toNatClampNeg).toInt64), .int i1]) (rest := []) ⟨hx, hb, hml, hown, hts⟩ (c_X1_residueOf l ((hf i0.toNatClampNeg).toInt64) i1 (by assumption) (by assumption) (n_lo _)) (va_cwS 2 hts gX1_isRingTrue_X1_residueOf rfl rfl rfl (by decide +kernel) ⟨Nat.le_of_ble_eq_true rfl, Nat.le_of_ble_eq_true rfl⟩) ⟨ny_blindT, fun U hU hW => ⟨rfl, trivial⟩⟩ rfl rfl hl.1 rfl (lv_room (Nat.le_of_ble_eq_true rfl)) dX1_isRingTrue_10 ⟨Nat.le_of_ble_eq_true rfl, Nat.le_of_ble_eq_true rfl⟩)) (fun r_10 hw_10 => ?_)
  have hw_10 : r_10 = f_rs ((hf i0.toNatClampNeg).toInt64) i1 := hw_10
  subst hw_10
  refine lv_istore (lv' := [(4, .int (f_rs ((hf i0.toNatClampNeg).toInt64) i1)), (3, .int (hf i0.toNatClampNeg)), (0, .ref o), (1, .int i0), (2, .int i1)]) hx hb dX1_isRingTrue_13 hl (by decide) rfl (fun ls hl => ?_)
  refine lv_iload_n hx hb dX1_isRingTrue_15 rfl (lv_at hl 3 rfl) ?_
  refine ny_ti (x2 := nI i0.toNatClampNeg) (n_plI gp0) ?_
  refine lv_istore (lv' := [(5, .int (nI i0.toNatClampNeg)), (4, .int (f_rs ((hf i0.toNatClampNeg).toInt64) i1)), (3, .int (hf i0.toNatClampNeg)), (0, .ref o), (1, .int i0), (2, .int i1)]) hx hb dX1_isRingTrue_16 hl (by decide) rfl (fun ls hl => ?_)
  refine ny_lp 18 10 (fun u : Nat => u ≤ 12) (fun u => 12 - u) (fun u => [(0, .ref o), (1, .int i0), (2, .int i1), (3, .int (hf i0.toNatClampNeg)), (4, .int (f_rs (hf i0.toNatClampNeg).toInt64 i1)), (5, .int (nI u))]) (fun u hu ih ls hl => ?_) i0.toNatClampNeg (show i0.toNatClampNeg ≤ 12 from Nat.le_of_lt (n_ix gp0)) (lv_sub hl [3, 4, 5, 2, 1, 0] rfl)
  obtain ⟨k, rfl⟩ : ∃ z, z = u := ⟨_, rfl⟩
  have hk : k ≤ 12 := hu
  have hl : lv_has ls 10 [(0, .ref o), (1, .int i0), (2, .int i1), (3, .int (hf i0.toNatClampNeg)), (4, .int (f_rs (hf i0.toNatClampNeg).toInt64 i1)), (5, .int (nI k))] := hl
  refine lv_iload hx hb dX1_isRingTrue_18 (lv_at hl 5 rfl) ?_
  refine lv_bipush (v := 12) hx hb dX1_isRingTrue_20 (by decide) ?_
  refine lv_icmp_ge (tgt := 119) hx hb dX1_isRingTrue_22 (by decide) (fun c_22 => ?_) (fun c_22 => ?_)
  · refine lv_iconst (v := 1) hx hb dX1_isRingTrue_119 (by decide) ?_
    exact W.zret (v := 1) hx hb hr (by decide) (fun t ht hW => ⟨1, rfl, (rfl), ht⟩) (fun q hq => absurd hq List.not_mem_nil) dX1_isRingTrue_120
  · have hk2 := n_lt12 hk c_22
    have hkR := n_kH gH hk2
    refine lv_aload_n hx hb dX1_isRingTrue_25 rfl (lv_at hl 0 rfl) ?_
    refine va_get (D := D) (ci := 3) (v := .ref q1) (C := RX1) (T := TX1) (N := 4) hx hb hts in_X1_isRingTrue_X1 hown hK hP 0 rfl rfl 0 (by decide) (hts (.fieldLink RX1 9 "Nearestclock" "held" "[I") (List.mem_of_getElem? (i := 1) rfl)) (fun _ h9 => h9) rfl dX1_isRingTrue_26 ?_
    refine lv_iload hx hb dX1_isRingTrue_29 (lv_at hl 5 rfl) ?_
    refine va_iald hx hb hK hP 1 0 rfl rfl (vp_in_nI hk2 (by decide)) dX1_isRingTrue_31 ?_
    refine lv_istore (lv' := [(6, .int (hf (nI k).toNatClampNeg)), (0, .ref o), (1, .int i0), (2, .int i1), (3, .int (hf i0.toNatClampNeg)), (4, .int (f_rs (hf i0.toNatClampNeg).toInt64 i1)), (5, .int (nI k))]) hx hb dX1_isRingTrue_32 hl (by decide) rfl (fun ls hl => ?_)
    refine lv_iload hx hb dX1_isRingTrue_34 (lv_at hl 0 rfl) ?_
    refine lv_i2l hx hb dX1_isRingTrue_36 rfl ?_
    refine lv_iload_n hx hb dX1_isRingTrue_37 rfl (lv_at hl 3 rfl) ?_
    refine vp_callSi (va_Run.run (va_runS (As := [.long ((hf (nI k).toNatClampNeg).toInt64), .int i1]) (rest := []) ⟨hx, hb, hml, hown, hts⟩ (c_X1_residueOf l ((hf (nI k).toNatClampNeg).toInt64) i1 (by assumption) (by assumption) (n_lo _)) (va_cwS 2 hts gX1_isRingTrue_X1_residueOf rfl rfl rfl (by decide +kernel) ⟨Nat.le_of_ble_eq_true rfl, Nat.le_of_ble_eq_true rfl⟩) ⟨ny_blindT, fun U hU hW => ⟨rfl, trivial⟩⟩ rfl rfl hl.1 rfl (lv_room (Nat.le_of_ble_eq_true rfl)) dX1_isRingTrue_38 ⟨Nat.le_of_ble_eq_true rfl, Nat.le_of_ble_eq_true rfl⟩)) (fun r_38 hw_38 => ?_)
    have hw_38 : r_38 = f_rs ((hf (nI k).toNatClampNeg).toInt64) i1 := hw_38
    subst hw_38
    refine lv_istore (lv' := [(7, .int (f_rs ((hf (nI k).toNatClampNeg).toInt64) i1)), (6, .int (hf (nI k).toNatClampNeg)), (0, .ref o), (1, .int i0), (2, .int i1), (3, .int (hf i0.toNatClampNeg)), (4, .int (f_rs (hf i0.toNatClampNeg).toInt64 i1)), (5, .int (nI k))]) hx hb dX1_isRingTrue_41 hl (by decide) rfl (fun ls hl => ?_)
    refine lv_iload hx hb dX1_isRingTrue_43 (lv_at hl 6 rfl) ?_
    refine lv_iload hx hb dX1_isRingTrue_45 (lv_at hl 0 rfl) ?_
    refine lv_iadd hx hb dX1_isRingTrue_47 ?_
    refine lv_i2l hx hb dX1_isRingTrue_48 rfl ?_
    refine lv_iload_n hx hb dX1_isRingTrue_49 rfl (lv_at hl 4 rfl) ?_
    refine vp_callSi (va_Run.run (va_runS (As := [.long (((f_rs (hf i0.toNatClampNeg).toInt64 i1) + (f_rs ((hf (nI k).toNatClampNeg).toInt64) i1)).toInt64), .int i1]) (rest := []) ⟨hx, hb, hml, hown, hts⟩ (c_X1_residueOf l (((f_rs (hf i0.toNatClampNeg).toInt64 i1) + (f_rs ((hf (nI k).toNatClampNeg).toInt64) i1)).toInt64) i1 (by assumption) (by assumption) (n_lo _)) (va_cwS 2 hts gX1_isRingTrue_X1_residueOf rfl rfl rfl (by decide +kernel) ⟨Nat.le_of_ble_eq_true rfl, Nat.le_of_ble_eq_true rfl⟩) ⟨ny_blindT, fun U hU hW => ⟨rfl, trivial⟩⟩ rfl rfl hl.1 rfl (lv_room (Nat.le_of_ble_eq_true rfl)) dX1_isRingTrue_50 ⟨Nat.le_of_ble_eq_true rfl, Nat.le_of_ble_eq_true rfl⟩)) (fun r_50 hw_50 => ?_)
    have hw_50 : r_50 = f_rs (((f_rs (hf i0.toNatClampNeg).toInt64 i1) + (f_rs ((hf (nI k).toNatClampNeg).toInt64) i1)).toInt64) i1 := hw_50
    subst hw_50
    refine lv_iload_n hx hb dX1_isRingTrue_53 rfl (lv_at hl 5 rfl) ?_
    refine lv_iload hx hb dX1_isRingTrue_54 (lv_at hl 1 rfl) ?_
    refine lv_iadd hx hb dX1_isRingTrue_56 ?_
    refine lv_i2l hx hb dX1_isRingTrue_57 rfl ?_
    refine lv_iload_n hx hb dX1_isRingTrue_58 rfl (lv_at hl 4 rfl) ?_
    refine vp_callSi (va_Run.run (va_runS (As := [.long (((hf i0.toNatClampNeg) + (hf (nI k).toNatClampNeg)).toInt64), .int i1]) (rest := [.int (f_rs (((f_rs (hf i0.toNatClampNeg).toInt64 i1) + (f_rs ((hf (nI k).toNatClampNeg).toInt64) i1)).toInt64) i1)]) ⟨hx, hb, hml, hown, hts⟩ (c_X1_residueOf l (((hf i0.toNatClampNeg) + (hf (nI k).toNatClampNeg)).toInt64) i1 (by assumption) (by assumption) (n_lo _)) (va_cwS 2 hts gX1_isRingTrue_X1_residueOf rfl rfl rfl (by decide +kernel) ⟨Nat.le_of_ble_eq_true rfl, Nat.le_of_ble_eq_true rfl⟩) ⟨ny_blindT, fun U hU hW => ⟨rfl, trivial⟩⟩ rfl rfl hl.1 rfl (lv_room (Nat.le_of_ble_eq_true rfl)) dX1_isRingTrue_59 ⟨Nat.le_of_ble_eq_true rfl, Nat.le_of_ble_eq_true rfl⟩)) (fun r_59 hw_59 => ?_)
    have hw_59 : r_59 = f_rs (((hf i0.toNatClampNeg) + (hf (nI k).toNatClampNeg)).toInt64) i1 := hw_59
    subst hw_59
    refine lv_icmp_ne (tgt := 69) hx hb dX1_isRingTrue_62 (by decide) (fun c_62 => absurd (show ((f_rs (((f_rs (hf i0.toNatClampNeg).toInt64 i1) + (f_rs ((hf (nI k).toNatClampNeg).toInt64) i1)).toInt64) i1) : Int32) = (f_rs (((hf i0.toNatClampNeg) + (hf (nI k).toNatClampNeg)).toInt64) i1) from n_r7z (gH _ (n_ix gp0)) hkR gy g0) c_62) (fun c_62 => ?_)
    refine lv_iconst (v := 1) hx hb dX1_isRingTrue_65 (by decide) ?_
    refine lv_goto (tgt := 70) hx hb dX1_isRingTrue_66 (by decide) ?_
    refine lv_istore (lv' := [(8, .int 1), (7, .int (f_rs ((hf (nI k).toNatClampNeg).toInt64) i1)), (6, .int (hf (nI k).toNatClampNeg)), (0, .ref o), (1, .int i0), (2, .int i1), (3, .int (hf i0.toNatClampNeg)), (4, .int (f_rs (hf i0.toNatClampNeg).toInt64 i1)), (5, .int (nI k))]) hx hb dX1_isRingTrue_70 hl (by decide) rfl (fun ls hl => ?_)
    refine lv_iload hx hb dX1_isRingTrue_72 (lv_at hl 7 rfl) ?_
    refine lv_iload hx hb dX1_isRingTrue_74 (lv_at hl 1 rfl) ?_
    refine lv_imul hx hb dX1_isRingTrue_76 ?_
    refine lv_i2l hx hb dX1_isRingTrue_77 rfl ?_
    refine lv_iload_n hx hb dX1_isRingTrue_78 rfl (lv_at hl 5 rfl) ?_
    refine vp_callSi (va_Run.run (va_runS (As := [.long (((f_rs (hf i0.toNatClampNeg).toInt64 i1) * (f_rs ((hf (nI k).toNatClampNeg).toInt64) i1)).toInt64), .int i1]) (rest := []) ⟨hx, hb, hml, hown, hts⟩ (c_X1_residueOf l (((f_rs (hf i0.toNatClampNeg).toInt64 i1) * (f_rs ((hf (nI k).toNatClampNeg).toInt64) i1)).toInt64) i1 (by assumption) (by assumption) (n_lo _)) (va_cwS 2 hts gX1_isRingTrue_X1_residueOf rfl rfl rfl (by decide +kernel) ⟨Nat.le_of_ble_eq_true rfl, Nat.le_of_ble_eq_true rfl⟩) ⟨ny_blindT, fun U hU hW => ⟨rfl, trivial⟩⟩ rfl rfl hl.1 rfl (lv_room (Nat.le_of_ble_eq_true rfl)) dX1_isRingTrue_79 ⟨Nat.le_of_ble_eq_true rfl, Nat.le_of_ble_eq_true rfl⟩)) (fun r_79 hw_79 => ?_)
    have hw_79 : r_79 = f_rs (((f_rs (hf i0.toNatClampNeg).toInt64 i1) * (f_rs ((hf (nI k).toNatClampNeg).toInt64) i1)).toInt64) i1 := hw_79
    subst hw_79
    refine lv_iload_n hx hb dX1_isRingTrue_82 rfl (lv_at hl 6 rfl) ?_
    refine lv_iload hx hb dX1_isRingTrue_83 (lv_at hl 2 rfl) ?_
    refine lv_imul hx hb dX1_isRingTrue_85 ?_
    refine lv_i2l hx hb dX1_isRingTrue_86 rfl ?_
    refine lv_iload_n hx hb dX1_isRingTrue_87 rfl (lv_at hl 5 rfl) ?_
    refine vp_callSi (va_Run.run (va_runS (As := [.long (((hf i0.toNatClampNeg) * (hf (nI k).toNatClampNeg)).toInt64), .int i1]) (rest := [.int (f_rs (((f_rs (hf i0.toNatClampNeg).toInt64 i1) * (f_rs ((hf (nI k).toNatClampNeg).toInt64) i1)).toInt64) i1)]) ⟨hx, hb, hml, hown, hts⟩ (c_X1_residueOf l (((hf i0.toNatClampNeg) * (hf (nI k).toNatClampNeg)).toInt64) i1 (by assumption) (by assumption) (n_lo _)) (va_cwS 2 hts gX1_isRingTrue_X1_residueOf rfl rfl rfl (by decide +kernel) ⟨Nat.le_of_ble_eq_true rfl, Nat.le_of_ble_eq_true rfl⟩) ⟨ny_blindT, fun U hU hW => ⟨rfl, trivial⟩⟩ rfl rfl hl.1 rfl (lv_room (Nat.le_of_ble_eq_true rfl)) dX1_isRingTrue_88 ⟨Nat.le_of_ble_eq_true rfl, Nat.le_of_ble_eq_true rfl⟩)) (fun r_88 hw_88 => ?_)
    have hw_88 : r_88 = f_rs (((hf i0.toNatClampNeg) * (hf (nI k).toNatClampNeg)).toInt64) i1 := hw_88
    subst hw_88
    refine lv_icmp_ne (tgt := 98) hx hb dX1_isRingTrue_91 (by decide) (fun c_91 => absurd (show ((f_rs (((f_rs (hf i0.toNatClampNeg).toInt64 i1) * (f_rs ((hf (nI k).toNatClampNeg).toInt64) i1)).toInt64) i1) : Int32) = (f_rs (((hf i0.toNatClampNeg) * (hf (nI k).toNatClampNeg)).toInt64) i1) from n_r8z (gH _ (n_ix gp0)) hkR gy g0) c_91) (fun c_91 => ?_)
    refine lv_iconst (v := 1) hx hb dX1_isRingTrue_94 (by decide) ?_
    refine lv_goto (tgt := 99) hx hb dX1_isRingTrue_95 (by decide) ?_
    refine lv_istore (lv' := [(9, .int 1), (8, .int 1), (7, .int (f_rs ((hf (nI k).toNatClampNeg).toInt64) i1)), (6, .int (hf (nI k).toNatClampNeg)), (0, .ref o), (1, .int i0), (2, .int i1), (3, .int (hf i0.toNatClampNeg)), (4, .int (f_rs (hf i0.toNatClampNeg).toInt64 i1)), (5, .int (nI k))]) hx hb dX1_isRingTrue_99 hl (by decide) rfl (fun ls hl => ?_)
    refine lv_iload hx hb dX1_isRingTrue_101 (lv_at hl 1 rfl) ?_
    refine lv_if_eq (tgt := 111) hx hb dX1_isRingTrue_103 (by decide) (fun c_103 => absurd c_103 (show ¬ ((1 : Int32) = 0) by  decide)) (fun c_103 => ?_)
    refine lv_iload hx hb dX1_isRingTrue_106 (lv_at hl 0 rfl) ?_
    refine lv_if_ne (tgt := 113) hx hb dX1_isRingTrue_108 (by decide) (fun c_108 => ?_) (fun c_108 => absurd c_108 (show ¬ ((1 : Int32) = 0) by  decide))
    refine lv_iinc (v := nI (k + 1)) (lv' := [(5, .int (nI (k + 1))), (9, .int 1), (8, .int 1), (7, .int (f_rs ((hf (nI k).toNatClampNeg).toInt64) i1)), (6, .int (hf (nI k).toNatClampNeg)), (0, .ref o), (1, .int i0), (2, .int i1), (3, .int (hf i0.toNatClampNeg)), (4, .int (f_rs (hf i0.toNatClampNeg).toInt64 i1))]) hx hb dX1_isRingTrue_113 hl (k := 9) rfl (n_incN k) (by decide) rfl (fun ls hl => ?_)
    refine lv_goto (tgt := 18) hx hb dX1_isRingTrue_116 (by decide) ?_
    exact ih (k + 1) (show (k + 1) ≤ 12 from by omega) (show 12 - (k + 1) < 12 - k by omega) _ (lv_sub hl [5, 6, 7, 8, 9, 0] rfl)
theorem in_X1_isMeasureTrue_X0 : ∀ w ∈ wsX00, w ∈ wsX1_isMeasureTrue := (fun _ h => List.mem_cons_of_mem _ (List.mem_append_left _ (List.mem_append_left _ (List.mem_append_right _ h))))
theorem in_X1_isMeasureTrue_X1 : ∀ w ∈ wsX10, w ∈ wsX1_isMeasureTrue := (fun _ h => List.mem_cons_of_mem _ (List.mem_append_left _ (List.mem_append_left _ (List.mem_append_left _ (List.mem_append_right _ h)))))
set_option maxHeartbeats 4000000 in
set_option maxRecDepth 100000 in
theorem c_X1_isMeasureTrue (l : Launch) (D : va_G) (cI : ClassId) (o : Nat) (q1 : Nat) (q2 : Nat) (q3 : Nat) (q4 : Nat) (q6 : Nat) (sz : Nat) (sr : Nat → Int32) (sc : Int32) (sl : Int32) (se : Int32) (i0 : Int32) (i1 : Int32) (gx : ny_R i0) (gy : ny_R i1) (g0 : ¬ i1 = 0) : Met l yX1_isMeasureTrue wsX1_isMeasureTrue ({ frames := 4, cells := 0, slots := 0, locals := 95 }) (va_Pc [.ref o, .int i0, .int i1] (ny_pre D [(cI, .int)] [(o, .inr (3, [.ref q1, .ref q2, .ref q3, .ref q4])), (q4, .inr (2, [.ref q6, .int sc, .int sl, .int se])), (q6, .inl (cI, 7, .inl sr))] sz)) (va_Qi (fun (r : Int32) (u : Unit) => r = 1) (fun (u : Unit) t => ny_at D [(cI, .int)] (va_A [(o, .inr (3, [.ref q1, .ref q2, .ref q3, .ref q4])), (q4, .inr (2, [.ref q6, .int sc, .int sl, .int se])), (q6, .inl (cI, 7, .inl sr))] sz) [(o, .inr (3, [.ref q1, .ref q2, .ref q3, .ref q4])), (q4, .inr (2, [.ref q6, .int (nI (f_ln i0 i1)), .int (f_la i0 i1), .int 1])), (q6, .inl (cI, 7, .inl (f_row sr i0 i1 (f_ln i0 i1))))] t) (va_A [(o, .inr (3, [.ref q1, .ref q2, .ref q3, .ref q4])), (q4, .inr (2, [.ref q6, .int sc, .int sl, .int se])), (q6, .inl (cI, 7, .inl sr))] sz)) 0 0 (va_A [(o, .inr (3, [.ref q1, .ref q2, .ref q3, .ref q4])), (q4, .inr (2, [.ref q6, .int sc, .int sl, .int se])), (q6, .inl (cI, 7, .inl sr))] sz) := by
  refine Met.ofW (cc := cX1_isMeasureTrue) (maxL := 10) (ret := (some .boolean)) (by decide) rfl ?_
  intro p e s m args below meth c s₁ B hml hv
  obtain ⟨rfl, hsz, hP, hK, hD0, hE⟩ := hv
  have hx := B.exec
  have hb := B.bytes
  have hr := B.returns
  have hts := atoms_spec (ws := wsX1_isMeasureTrue) B.pre
  have hown : s.vm.findClass RX1 = some m.cls := findClass_of_methodNamed B.named
  have hlocks := B.notSynchronized
  subst hsz
  have hD := hD0.self (sz := s.heap.size)
  generalize hAe : va_A [(o, .inr (3, [.ref q1, .ref q2, .ref q3, .ref q4])), (q4, .inr (2, [.ref q6, .int sc, .int sl, .int se])), (q6, .inl (cI, 7, .inl sr))] s.heap.size = A at hD hE ⊢
  have hA : ∀ q : Nat, s.heap.size ≤ q → A q := fun q h => by rw [← hAe]; exact Or.inr h
  have hS : va_S A s.heap s.heap [] := va_S.rf
  have hl := lv_entry ([.ref o, .int i0, .int i1]) (n := 10) (Nat.le_of_ble_eq_true rfl)
  rw [lg_entry_eq]
  generalize (lg_sl ([.ref o, .int i0, .int i1]) ++ List.replicate (10 - (lg_sl ([.ref o, .int i0, .int i1])).length) Slot.unset).toArray = ls at hl ⊢
  have hl : lv_has ls 10 [(0, .ref o), (1, .int i0), (2, .int i1)] := hl
  have hlT := n_lnT (x := i0) gy
  have hl7 := n_lnI (x := i0) gy
  have hE1 := n_end (x := i0.toInt) (n_R127 gy)
  have gg0 := n_gd0 gy gx g0
  refine lv_aload_n hx hb dX1_isMeasureTrue_0 rfl (lv_at hl 0 rfl) ?_
  refine lv_iload_n hx hb dX1_isMeasureTrue_1 rfl (lv_at hl 1 rfl) ?_
  refine lv_iload_n hx hb dX1_isMeasureTrue_2 rfl (lv_at hl 2 rfl) ?_
  refine ny_i (wc := [(o, .inr (3, [.ref q1, .ref q2, .ref q3, .ref q4])), (q4, .inr (2, [.ref q6, .int sc, .int sl, .int se])), (q6, .inl (cI, 7, .inl sr))]) (wr := []) hP hD hS hA [0, 1, 2] [] rfl rfl (by decide) (by decide) (va_runV (As := [.int i0, .int i1]) (rest := []) ⟨hx, hb, hml, hown, hts⟩ (c_X1_measureOf l D cI o q1 q2 q3 q4 q6 s.heap.size sr sc sl se i0 i1 (by assumption) (by assumption)) (cwV 2 hts gX1_isMeasureTrue_X1_measureOf rfl rfl rfl (by decide +kernel) ⟨Nat.le_of_ble_eq_true rfl, Nat.le_of_ble_eq_true rfl⟩) ⟨ny_blind, va_recv hK hP (ci := 3) (q0 := 0) rfl rfl, fun U hU hW => ⟨rfl, ny_preU hE hP hK hD hS hA [0, 1, 2] rfl (by decide) rfl [0] rfl U hU hW⟩⟩ rfl rfl hl.1 rfl (lv_room (Nat.le_of_ble_eq_true rfl)) dX1_isMeasureTrue_3 ⟨Nat.le_of_ble_eq_true rfl, Nat.le_of_ble_eq_true rfl⟩) (fun r_3 u H locs hw_3 hP hD hS => ?_)
  have hP : va_P D vwCl [(o, .inr (3, [.ref q1, .ref q2, .ref q3, .ref q4])), (q4, .inr (2, [.ref q6, .int (nI (f_ln i0 i1)), .int (f_la i0 i1), .int 1])), (q6, .inl (cI, 7, .inl (f_row sr i0 i1 (f_ln i0 i1))))] H := hP
  have hD : va_D A [(o, .inr (3, [.ref q1, .ref q2, .ref q3, .ref q4])), (q4, .inr (2, [.ref q6, .int (nI (f_ln i0 i1)), .int (f_la i0 i1), .int 1])), (q6, .inl (cI, 7, .inl (f_row sr i0 i1 (f_ln i0 i1))))] := hD
  have hw_3 : r_3 = f_gd i0 i1 := hw_3
  subst hw_3
  refine lv_istore_n (lv' := [(3, .int (f_gd i0 i1)), (0, .ref o), (1, .int i0), (2, .int i1)]) hx hb dX1_isMeasureTrue_6 rfl hl (by decide) rfl (fun ls hl => ?_)
  refine lv_aload_n hx hb dX1_isMeasureTrue_7 rfl (lv_at hl 1 rfl) ?_
  refine va_get (D := D) (ci := 3) (v := .ref q4) (C := RX1) (T := TX1) (N := 4) hx hb hts in_X1_isMeasureTrue_X1 hown hK hP 0 rfl rfl 3 (by decide) (hts (.fieldLink RX1 24 "Nearestclock" "spare" "LNearestclock$Euclid;") (List.mem_of_getElem? (i := 1) rfl)) (fun _ h9 => h9) rfl dX1_isMeasureTrue_8 ?_
  refine va_getN (D := D) (ci := 2) (v := .int (nI (f_ln i0 i1))) (C := RX0) (T := TX0) (N := 4) hx hb hts in_X1_isMeasureTrue_X0 hown hK hP 1 rfl rfl 1 (by decide) (va_Nw.use rfl (hE.2.2.1 (109, "count", "I") (List.mem_of_getElem? (i := 0) rfl))) (fun _ h9 => h9) rfl dX1_isMeasureTrue_11 ?_
  refine lv_istore (lv' := [(4, .int (nI (f_ln i0 i1))), (3, .int (f_gd i0 i1)), (0, .ref o), (1, .int i0), (2, .int i1)]) hx hb dX1_isMeasureTrue_14 hl (by decide) rfl (fun ls hl => ?_)
  refine lv_aload_n hx hb dX1_isMeasureTrue_16 rfl (lv_at hl 2 rfl) ?_
  refine va_get (D := D) (ci := 3) (v := .ref q4) (C := RX1) (T := TX1) (N := 4) hx hb hts in_X1_isMeasureTrue_X1 hown hK hP 0 rfl rfl 3 (by decide) (hts (.fieldLink RX1 24 "Nearestclock" "spare" "LNearestclock$Euclid;") (List.mem_of_getElem? (i := 1) rfl)) (fun _ h9 => h9) rfl dX1_isMeasureTrue_17 ?_
  refine lv_iload hx hb dX1_isMeasureTrue_20 (lv_at hl 0 rfl) ?_
  refine vp_callSi (va_Run.run (va_runVN (As := [.int (nI (f_ln i0 i1))]) (rest := []) ⟨hx, hb, hml, hown, hts⟩ (c_X0_aboveLine l D cI q4 q6 H.size (f_row sr i0 i1 (f_ln i0 i1)) (nI (f_ln i0 i1)) (f_la i0 i1) 1 (nI (f_ln i0 i1)) (by omega) (by rw [fa_le]; omega) (by omega)) ⟨va_cnB 1 hts gX1_isMeasureTrue_X0_aboveLine_n124 rfl rfl rfl (hE.2.2.2.1 (RX1, 124, yX0_aboveLine) (List.mem_of_getElem? (i := 1) rfl)) (hts (.initialized RX0) (List.mem_of_getElem? (i := 12) rfl)) (by decide +kernel) ⟨Nat.le_of_ble_eq_true rfl, Nat.le_of_ble_eq_true rfl⟩, (hts (.instanceMethod yX0_aboveLine) (List.mem_of_getElem? (i := 27) rfl)), (hts (.selects RX0 yX0_aboveLine yX0_aboveLine) (List.mem_of_getElem? (i := 28) rfl))⟩ ⟨ny_blind, va_recv hK hP (ci := 2) (q0 := 1) rfl rfl, fun U hU hW => ⟨rfl, ny_preU hE hP hK hD hS hA [1, 2] rfl (by decide) rfl [0] rfl U hU hW⟩⟩ rfl rfl hl.1 rfl (lv_room (Nat.le_of_ble_eq_true rfl)) dX1_isMeasureTrue_22 ⟨Nat.le_of_ble_eq_true rfl, Nat.le_of_ble_eq_true rfl⟩)) (fun r_22 hw_22 => ?_)
  have hw_22 : r_22 = (f_sh (f_row sr i0 i1 (f_ln i0 i1)) 0 1 (nI (f_ln i0 i1)).toNatClampNeg).2 := hw_22
  subst hw_22
  refine lv_topi (fun a4 e_a4 => ?_)
  have ha := e_a4 ▸ (n_av (sr := sr) gx gy g0).1
  refine lv_istore (lv' := [(5, .int a4), (4, .int (nI (f_ln i0 i1))), (3, .int (f_gd i0 i1)), (0, .ref o), (1, .int i0), (2, .int i1)]) hx hb dX1_isMeasureTrue_25 hl (by decide) rfl (fun ls hl => ?_)
  refine lv_aload_n hx hb dX1_isMeasureTrue_27 rfl (lv_at hl 3 rfl) ?_
  refine va_get (D := D) (ci := 3) (v := .ref q4) (C := RX1) (T := TX1) (N := 4) hx hb hts in_X1_isMeasureTrue_X1 hown hK hP 0 rfl rfl 3 (by decide) (hts (.fieldLink RX1 24 "Nearestclock" "spare" "LNearestclock$Euclid;") (List.mem_of_getElem? (i := 1) rfl)) (fun _ h9 => h9) rfl dX1_isMeasureTrue_28 ?_
  refine lv_iload hx hb dX1_isMeasureTrue_31 (lv_at hl 1 rfl) ?_
  refine vp_callSi (va_Run.run (va_runVN (As := [.int (nI (f_ln i0 i1))]) (rest := []) ⟨hx, hb, hml, hown, hts⟩ (c_X0_belowLine l D cI q4 q6 H.size (f_row sr i0 i1 (f_ln i0 i1)) (nI (f_ln i0 i1)) (f_la i0 i1) 1 (nI (f_ln i0 i1)) (by omega) (by rw [fa_le]; omega) (by omega)) ⟨va_cnB 1 hts gX1_isMeasureTrue_X0_belowLine_n127 rfl rfl rfl (hE.2.2.2.1 (RX1, 127, yX0_belowLine) (List.mem_of_getElem? (i := 2) rfl)) (hts (.initialized RX0) (List.mem_of_getElem? (i := 12) rfl)) (by decide +kernel) ⟨Nat.le_of_ble_eq_true rfl, Nat.le_of_ble_eq_true rfl⟩, (hts (.instanceMethod yX0_belowLine) (List.mem_of_getElem? (i := 34) rfl)), (hts (.selects RX0 yX0_belowLine yX0_belowLine) (List.mem_of_getElem? (i := 35) rfl))⟩ ⟨ny_blind, va_recv hK hP (ci := 2) (q0 := 1) rfl rfl, fun U hU hW => ⟨rfl, ny_preU hE hP hK hD hS hA [1, 2] rfl (by decide) rfl [0] rfl U hU hW⟩⟩ rfl rfl hl.1 rfl (lv_room (Nat.le_of_ble_eq_true rfl)) dX1_isMeasureTrue_33 ⟨Nat.le_of_ble_eq_true rfl, Nat.le_of_ble_eq_true rfl⟩)) (fun r_33 hw_33 => ?_)
  have hw_33 : r_33 = (f_sh (f_row sr i0 i1 (f_ln i0 i1)) 1 0 (nI (f_ln i0 i1)).toNatClampNeg).2 := hw_33
  subst hw_33
  refine lv_topi (fun b5 e_b5 => ?_)
  have hb5 := e_b5 ▸ (n_av (sr := sr) gx gy g0).2
  refine lv_istore (lv' := [(6, .int b5), (5, .int a4), (4, .int (nI (f_ln i0 i1))), (3, .int (f_gd i0 i1)), (0, .ref o), (1, .int i0), (2, .int i1)]) hx hb dX1_isMeasureTrue_36 hl (by decide) rfl (fun ls hl => ?_)
  refine lv_iload_n hx hb dX1_isMeasureTrue_38 rfl (lv_at hl 3 rfl) ?_
  refine lv_if_le (tgt := 62) hx hb dX1_isMeasureTrue_39 (by decide) (fun c_39 => absurd c_39 (show ¬ (((f_gd i0 i1) : Int32) ≤ 0) from n_m0 gx gy g0)) (fun c_39 => ?_)
  refine lv_iload_n hx hb dX1_isMeasureTrue_42 rfl (lv_at hl 5 rfl) ?_
  refine lv_iload_n hx hb dX1_isMeasureTrue_43 rfl (lv_at hl 3 rfl) ?_
  refine vp_callSi (va_Run.run (va_runS (As := [.int i0, .int (f_gd i0 i1)]) (rest := []) ⟨hx, hb, hml, hown, hts⟩ (c_X1_cutOf l i0 (f_gd i0 i1) (by assumption)) (va_cwS 2 hts gX1_isMeasureTrue_X1_cutOf rfl rfl rfl (by decide +kernel) ⟨Nat.le_of_ble_eq_true rfl, Nat.le_of_ble_eq_true rfl⟩) ⟨ny_blindT, fun U hU hW => ⟨rfl, trivial⟩⟩ rfl rfl hl.1 rfl (lv_room (Nat.le_of_ble_eq_true rfl)) dX1_isMeasureTrue_44 ⟨Nat.le_of_ble_eq_true rfl, Nat.le_of_ble_eq_true rfl⟩)) (fun r_44 hw_44 => ?_)
  have hw_44 : r_44 = f_cu i0 (f_gd i0 i1) := hw_44
  subst hw_44
  refine lv_if_ne (tgt := 62) hx hb dX1_isMeasureTrue_47 (by decide) (fun c_47 => absurd (show ((f_cu i0 (f_gd i0 i1)) : Int32) = 0 from (n_m1 gx gy).1) c_47) (fun c_47 => ?_)
  refine lv_iload_n hx hb dX1_isMeasureTrue_50 rfl (lv_at hl 6 rfl) ?_
  refine lv_iload_n hx hb dX1_isMeasureTrue_51 rfl (lv_at hl 3 rfl) ?_
  refine vp_callSi (va_Run.run (va_runS (As := [.int i1, .int (f_gd i0 i1)]) (rest := []) ⟨hx, hb, hml, hown, hts⟩ (c_X1_cutOf l i1 (f_gd i0 i1) (by assumption)) (va_cwS 2 hts gX1_isMeasureTrue_X1_cutOf rfl rfl rfl (by decide +kernel) ⟨Nat.le_of_ble_eq_true rfl, Nat.le_of_ble_eq_true rfl⟩) ⟨ny_blindT, fun U hU hW => ⟨rfl, trivial⟩⟩ rfl rfl hl.1 rfl (lv_room (Nat.le_of_ble_eq_true rfl)) dX1_isMeasureTrue_52 ⟨Nat.le_of_ble_eq_true rfl, Nat.le_of_ble_eq_true rfl⟩)) (fun r_52 hw_52 => ?_)
  have hw_52 : r_52 = f_cu i1 (f_gd i0 i1) := hw_52
  subst hw_52
  refine lv_if_ne (tgt := 62) hx hb dX1_isMeasureTrue_55 (by decide) (fun c_55 => absurd (show ((f_cu i1 (f_gd i0 i1)) : Int32) = 0 from (n_m1 gx gy).2) c_55) (fun c_55 => ?_)
  refine lv_iconst (v := 1) hx hb dX1_isMeasureTrue_58 (by decide) ?_
  refine lv_goto (tgt := 63) hx hb dX1_isMeasureTrue_59 (by decide) ?_
  refine lv_istore (lv' := [(7, .int 1), (6, .int b5), (5, .int a4), (4, .int (nI (f_ln i0 i1))), (3, .int (f_gd i0 i1)), (0, .ref o), (1, .int i0), (2, .int i1)]) hx hb dX1_isMeasureTrue_63 hl (by decide) rfl (fun ls hl => ?_)
  refine lv_iload hx hb dX1_isMeasureTrue_65 (lv_at hl 2 rfl) ?_
  refine va_mabs hx hb (hml.trans hl.1.symm) hown (hts (.methodLink RX1 65 Lib.Math.abs.name) (List.mem_of_getElem? (i := 2) rfl)) (hts (.static Lib.Math.abs.name) (List.mem_of_getElem? (i := 3) rfl)) (hts (.initialized "java/lang/Math") (List.mem_of_getElem? (i := 4) rfl)) (hts (.code Lib.Math.abs.name Lib.Math.abs.code 1 (some .int)) (List.mem_of_getElem? (i := 5) rfl)) (Nat.le_of_ble_eq_true rfl) (Nat.le_of_ble_eq_true rfl) (Nat.le_of_ble_eq_true rfl) (Nat.le_of_ble_eq_true rfl) dX1_isMeasureTrue_67 ?_
  refine W.eq (g2 := F0 m 70 ls [.int (ny_ab a4)]) rfl ?_
  refine lv_iload_n hx hb dX1_isMeasureTrue_70 rfl (lv_at hl 4 rfl) ?_
  refine lv_imul hx hb dX1_isMeasureTrue_71 ?_
  refine lv_iload_n hx hb dX1_isMeasureTrue_72 rfl (lv_at hl 6 rfl) ?_
  refine va_mabs hx hb (hml.trans hl.1.symm) hown (hts (.methodLink RX1 65 Lib.Math.abs.name) (List.mem_of_getElem? (i := 2) rfl)) (hts (.static Lib.Math.abs.name) (List.mem_of_getElem? (i := 3) rfl)) (hts (.initialized "java/lang/Math") (List.mem_of_getElem? (i := 4) rfl)) (hts (.code Lib.Math.abs.name Lib.Math.abs.code 1 (some .int)) (List.mem_of_getElem? (i := 5) rfl)) (Nat.le_of_ble_eq_true rfl) (Nat.le_of_ble_eq_true rfl) (Nat.le_of_ble_eq_true rfl) (Nat.le_of_ble_eq_true rfl) dX1_isMeasureTrue_73 ?_
  refine W.eq (g2 := F0 m 76 ls [.int (ny_ab i0), .int ((ny_ab a4) * (f_gd i0 i1))]) rfl ?_
  refine lv_icmp_ne (tgt := 108) hx hb dX1_isMeasureTrue_76 (by decide) (fun c_76 => absurd (show (((ny_ab a4) * (f_gd i0 i1)) : Int32) = (ny_ab i0) from n_m2 gx gy gx ha hE1.1 g0) c_76) (fun c_76 => ?_)
  refine lv_iload hx hb dX1_isMeasureTrue_79 (lv_at hl 1 rfl) ?_
  refine va_mabs hx hb (hml.trans hl.1.symm) hown (hts (.methodLink RX1 65 Lib.Math.abs.name) (List.mem_of_getElem? (i := 2) rfl)) (hts (.static Lib.Math.abs.name) (List.mem_of_getElem? (i := 3) rfl)) (hts (.initialized "java/lang/Math") (List.mem_of_getElem? (i := 4) rfl)) (hts (.code Lib.Math.abs.name Lib.Math.abs.code 1 (some .int)) (List.mem_of_getElem? (i := 5) rfl)) (Nat.le_of_ble_eq_true rfl) (Nat.le_of_ble_eq_true rfl) (Nat.le_of_ble_eq_true rfl) (Nat.le_of_ble_eq_true rfl) dX1_isMeasureTrue_81 ?_
  refine W.eq (g2 := F0 m 84 ls [.int (ny_ab b5)]) rfl ?_
  refine lv_iload_n hx hb dX1_isMeasureTrue_84 rfl (lv_at hl 4 rfl) ?_
  refine lv_imul hx hb dX1_isMeasureTrue_85 ?_
  refine lv_iload_n hx hb dX1_isMeasureTrue_86 rfl (lv_at hl 7 rfl) ?_
  refine va_mabs hx hb (hml.trans hl.1.symm) hown (hts (.methodLink RX1 65 Lib.Math.abs.name) (List.mem_of_getElem? (i := 2) rfl)) (hts (.static Lib.Math.abs.name) (List.mem_of_getElem? (i := 3) rfl)) (hts (.initialized "java/lang/Math") (List.mem_of_getElem? (i := 4) rfl)) (hts (.code Lib.Math.abs.name Lib.Math.abs.code 1 (some .int)) (List.mem_of_getElem? (i := 5) rfl)) (Nat.le_of_ble_eq_true rfl) (Nat.le_of_ble_eq_true rfl) (Nat.le_of_ble_eq_true rfl) (Nat.le_of_ble_eq_true rfl) dX1_isMeasureTrue_87 ?_
  refine W.eq (g2 := F0 m 90 ls [.int (ny_ab i1), .int ((ny_ab b5) * (f_gd i0 i1))]) rfl ?_
  refine lv_icmp_ne (tgt := 108) hx hb dX1_isMeasureTrue_90 (by decide) (fun c_90 => absurd (show (((ny_ab b5) * (f_gd i0 i1)) : Int32) = (ny_ab i1) from n_m2 gx gy gy hb5 hE1.2 g0) c_90) (fun c_90 => ?_)
  refine lv_iload hx hb dX1_isMeasureTrue_93 (lv_at hl 2 rfl) ?_
  refine lv_iload_n hx hb dX1_isMeasureTrue_95 rfl (lv_at hl 7 rfl) ?_
  refine lv_imul hx hb dX1_isMeasureTrue_96 ?_
  refine lv_iload hx hb dX1_isMeasureTrue_97 (lv_at hl 1 rfl) ?_
  refine lv_iload_n hx hb dX1_isMeasureTrue_99 rfl (lv_at hl 6 rfl) ?_
  refine lv_imul hx hb dX1_isMeasureTrue_100 ?_
  refine lv_icmp_ne (tgt := 108) hx hb dX1_isMeasureTrue_101 (by decide) (fun c_101 => absurd (show ((a4 * i1) : Int32) = (b5 * i0) from n_m3 gx gy ha hb5 hE1.1 hE1.2) c_101) (fun c_101 => ?_)
  refine lv_iconst (v := 1) hx hb dX1_isMeasureTrue_104 (by decide) ?_
  refine lv_goto (tgt := 109) hx hb dX1_isMeasureTrue_105 (by decide) ?_
  refine lv_istore (lv' := [(8, .int 1), (7, .int 1), (6, .int b5), (5, .int a4), (4, .int (nI (f_ln i0 i1))), (3, .int (f_gd i0 i1)), (0, .ref o), (1, .int i0), (2, .int i1)]) hx hb dX1_isMeasureTrue_109 hl (by decide) rfl (fun ls hl => ?_)
  refine lv_iload hx hb dX1_isMeasureTrue_111 (lv_at hl 3 rfl) ?_
  refine lv_aload_n hx hb dX1_isMeasureTrue_113 rfl (lv_at hl 6 rfl) ?_
  refine va_get (D := D) (ci := 3) (v := .ref q4) (C := RX1) (T := TX1) (N := 4) hx hb hts in_X1_isMeasureTrue_X1 hown hK hP 0 rfl rfl 3 (by decide) (hts (.fieldLink RX1 24 "Nearestclock" "spare" "LNearestclock$Euclid;") (List.mem_of_getElem? (i := 1) rfl)) (fun _ h9 => h9) rfl dX1_isMeasureTrue_114 ?_
  refine lv_iload hx hb dX1_isMeasureTrue_117 (lv_at hl 4 rfl) ?_
  refine lv_iconst (v := 1) hx hb dX1_isMeasureTrue_119 (by decide) ?_
  refine lv_isub hx hb dX1_isMeasureTrue_120 ?_
  refine ny_ti (x2 := nI (f_ln i0 i1 - 1)) (pk_sub (b := 1) (n_lnP gy g0)) ?_
  refine vp_callSi (va_Run.run (va_runVN (As := [.int (nI (f_ln i0 i1 - 1))]) (rest := [.int a4]) ⟨hx, hb, hml, hown, hts⟩ (c_X0_belowLine l D cI q4 q6 H.size (f_row sr i0 i1 (f_ln i0 i1)) (nI (f_ln i0 i1)) (f_la i0 i1) 1 (nI (f_ln i0 i1 - 1)) (by rw [nI_toInt (by have := n_lnI (x := i0) gy; omega)]; omega) (by rw [fa_le, nI_toInt (by have := n_lnI (x := i0) gy; omega), n_lnT gy]; omega) (by rw [n_lnT gy]; have := n_lnI (x := i0) gy; omega)) ⟨va_cnB 1 hts gX1_isMeasureTrue_X0_belowLine_n127 rfl rfl rfl (hE.2.2.2.1 (RX1, 127, yX0_belowLine) (List.mem_of_getElem? (i := 2) rfl)) (hts (.initialized RX0) (List.mem_of_getElem? (i := 12) rfl)) (by decide +kernel) ⟨Nat.le_of_ble_eq_true rfl, Nat.le_of_ble_eq_true rfl⟩, (hts (.instanceMethod yX0_belowLine) (List.mem_of_getElem? (i := 34) rfl)), (hts (.selects RX0 yX0_belowLine yX0_belowLine) (List.mem_of_getElem? (i := 35) rfl))⟩ ⟨ny_blind, va_recv hK hP (ci := 2) (q0 := 1) rfl rfl, fun U hU hW => ⟨rfl, ny_preU hE hP hK hD hS hA [1, 2] rfl (by decide) rfl [0] rfl U hU hW⟩⟩ rfl rfl hl.1 rfl (lv_room (Nat.le_of_ble_eq_true rfl)) dX1_isMeasureTrue_121 ⟨Nat.le_of_ble_eq_true rfl, Nat.le_of_ble_eq_true rfl⟩)) (fun r_121 hw_121 => ?_)
  have hw_121 : r_121 = (f_sh (f_row sr i0 i1 (f_ln i0 i1)) 1 0 (nI (f_ln i0 i1 - 1)).toNatClampNeg).2 := hw_121
  subst hw_121
  refine lv_topi (fun b7 e_b7 => ?_)
  have hb7 := e_b7.trans (n_w1 (sr := sr) gy g0)
  refine lv_imul hx hb dX1_isMeasureTrue_124 ?_
  refine lv_iload hx hb dX1_isMeasureTrue_125 (lv_at hl 2 rfl) ?_
  refine lv_aload_n hx hb dX1_isMeasureTrue_127 rfl (lv_at hl 6 rfl) ?_
  refine va_get (D := D) (ci := 3) (v := .ref q4) (C := RX1) (T := TX1) (N := 4) hx hb hts in_X1_isMeasureTrue_X1 hown hK hP 0 rfl rfl 3 (by decide) (hts (.fieldLink RX1 24 "Nearestclock" "spare" "LNearestclock$Euclid;") (List.mem_of_getElem? (i := 1) rfl)) (fun _ h9 => h9) rfl dX1_isMeasureTrue_128 ?_
  refine lv_iload hx hb dX1_isMeasureTrue_131 (lv_at hl 4 rfl) ?_
  refine lv_iconst (v := 1) hx hb dX1_isMeasureTrue_133 (by decide) ?_
  refine lv_isub hx hb dX1_isMeasureTrue_134 ?_
  refine ny_ti (x2 := nI (f_ln i0 i1 - 1)) (pk_sub (b := 1) (n_lnP gy g0)) ?_
  refine vp_callSi (va_Run.run (va_runVN (As := [.int (nI (f_ln i0 i1 - 1))]) (rest := [.int b5, .int (a4 * b7)]) ⟨hx, hb, hml, hown, hts⟩ (c_X0_aboveLine l D cI q4 q6 H.size (f_row sr i0 i1 (f_ln i0 i1)) (nI (f_ln i0 i1)) (f_la i0 i1) 1 (nI (f_ln i0 i1 - 1)) (by rw [nI_toInt (by have := n_lnI (x := i0) gy; omega)]; omega) (by rw [fa_le, nI_toInt (by have := n_lnI (x := i0) gy; omega), n_lnT gy]; omega) (by rw [n_lnT gy]; have := n_lnI (x := i0) gy; omega)) ⟨va_cnB 1 hts gX1_isMeasureTrue_X0_aboveLine_n124 rfl rfl rfl (hE.2.2.2.1 (RX1, 124, yX0_aboveLine) (List.mem_of_getElem? (i := 1) rfl)) (hts (.initialized RX0) (List.mem_of_getElem? (i := 12) rfl)) (by decide +kernel) ⟨Nat.le_of_ble_eq_true rfl, Nat.le_of_ble_eq_true rfl⟩, (hts (.instanceMethod yX0_aboveLine) (List.mem_of_getElem? (i := 27) rfl)), (hts (.selects RX0 yX0_aboveLine yX0_aboveLine) (List.mem_of_getElem? (i := 28) rfl))⟩ ⟨ny_blind, va_recv hK hP (ci := 2) (q0 := 1) rfl rfl, fun U hU hW => ⟨rfl, ny_preU hE hP hK hD hS hA [1, 2] rfl (by decide) rfl [0] rfl U hU hW⟩⟩ rfl rfl hl.1 rfl (lv_room (Nat.le_of_ble_eq_true rfl)) dX1_isMeasureTrue_135 ⟨Nat.le_of_ble_eq_true rfl, Nat.le_of_ble_eq_true rfl⟩)) (fun r_135 hw_135 => ?_)
  have hw_135 : r_135 = (f_sh (f_row sr i0 i1 (f_ln i0 i1)) 0 1 (nI (f_ln i0 i1 - 1)).toNatClampNeg).2 := hw_135
  subst hw_135
  refine lv_topi (fun a9 e_a9 => ?_)
  have ha9 := e_a9.trans (n_w0 (sr := sr) gy g0)
  refine lv_imul hx hb dX1_isMeasureTrue_138 ?_
  refine lv_isub hx hb dX1_isMeasureTrue_139 ?_
  refine lv_istore (lv' := [(9, .int ((a4 * b7) - (b5 * a9))), (8, .int 1), (7, .int 1), (6, .int b5), (5, .int a4), (4, .int (nI (f_ln i0 i1))), (3, .int (f_gd i0 i1)), (0, .ref o), (1, .int i0), (2, .int i1)]) hx hb dX1_isMeasureTrue_140 hl (by decide) rfl (fun ls hl => ?_)
  refine lv_iload hx hb dX1_isMeasureTrue_142 (lv_at hl 2 rfl) ?_
  refine lv_if_eq (tgt := 175) hx hb dX1_isMeasureTrue_144 (by decide) (fun c_144 => absurd c_144 (show ¬ ((1 : Int32) = 0) by  decide)) (fun c_144 => ?_)
  refine lv_iload hx hb dX1_isMeasureTrue_147 (lv_at hl 1 rfl) ?_
  refine lv_if_eq (tgt := 175) hx hb dX1_isMeasureTrue_149 (by decide) (fun c_149 => absurd c_149 (show ¬ ((1 : Int32) = 0) by  decide)) (fun c_149 => ?_)
  refine lv_iload hx hb dX1_isMeasureTrue_152 (lv_at hl 0 rfl) ?_
  refine va_mabs hx hb (hml.trans hl.1.symm) hown (hts (.methodLink RX1 65 Lib.Math.abs.name) (List.mem_of_getElem? (i := 2) rfl)) (hts (.static Lib.Math.abs.name) (List.mem_of_getElem? (i := 3) rfl)) (hts (.initialized "java/lang/Math") (List.mem_of_getElem? (i := 4) rfl)) (hts (.code Lib.Math.abs.name Lib.Math.abs.code 1 (some .int)) (List.mem_of_getElem? (i := 5) rfl)) (Nat.le_of_ble_eq_true rfl) (Nat.le_of_ble_eq_true rfl) (Nat.le_of_ble_eq_true rfl) (Nat.le_of_ble_eq_true rfl) dX1_isMeasureTrue_154 ?_
  refine W.eq (g2 := F0 m 157 ls [.int (ny_ab ((a4 * b7) - (b5 * a9)))]) rfl ?_
  refine lv_iconst (v := 1) hx hb dX1_isMeasureTrue_157 (by decide) ?_
  refine lv_icmp_ne (tgt := 175) hx hb dX1_isMeasureTrue_158 (by decide) (fun c_158 => absurd (show ((ny_ab ((a4 * b7) - (b5 * a9))) : Int32) = 1 from n_cr ha hb5 hb7 ha9) c_158) (fun c_158 => ?_)
  refine lv_aload_n hx hb dX1_isMeasureTrue_161 rfl (lv_at hl 7 rfl) ?_
  refine va_get (D := D) (ci := 3) (v := .ref q4) (C := RX1) (T := TX1) (N := 4) hx hb hts in_X1_isMeasureTrue_X1 hown hK hP 0 rfl rfl 3 (by decide) (hts (.fieldLink RX1 24 "Nearestclock" "spare" "LNearestclock$Euclid;") (List.mem_of_getElem? (i := 1) rfl)) (fun _ h9 => h9) rfl dX1_isMeasureTrue_162 ?_
  refine va_getN (D := D) (ci := 2) (v := .int 1) (C := RX0) (T := TX0) (N := 4) hx hb hts in_X1_isMeasureTrue_X0 hown hK hP 1 rfl rfl 3 (by decide) (va_Nw.use rfl (hE.2.2.1 (189, "isAtEnd", "Z") (List.mem_of_getElem? (i := 3) rfl))) (fun _ h9 => h9) rfl dX1_isMeasureTrue_165 ?_
  refine lv_if_eq (tgt := 175) hx hb dX1_isMeasureTrue_168 (by decide) (fun c_168 => absurd c_168 (show ¬ ((1 : Int32) = 0) by  decide)) (fun c_168 => ?_)
  refine lv_iconst (v := 1) hx hb dX1_isMeasureTrue_171 (by decide) ?_
  refine lv_goto (tgt := 176) hx hb dX1_isMeasureTrue_172 (by decide) ?_
  have hP9 := hP.sub (ws' := [(o, .inr (3, [.ref q1, .ref q2, .ref q3, .ref q4])), (q4, .inr (2, [.ref q6, .int (nI (f_ln i0 i1)), .int (f_la i0 i1), .int 1])), (q6, .inl (cI, 7, .inl (f_row sr i0 i1 (f_ln i0 i1))))]) [0, 1, 2] rfl
  have hD9 := hD.sub (ws' := [(o, .inr (3, [.ref q1, .ref q2, .ref q3, .ref q4])), (q4, .inr (2, [.ref q6, .int (nI (f_ln i0 i1)), .int (f_la i0 i1), .int 1])), (q6, .inl (cI, 7, .inl (f_row sr i0 i1 (f_ln i0 i1))))]) [0, 1, 2] (by decide) rfl
  exact W.zret (v := 1) hx hb hr (by decide) (fun t ht hW => ⟨⟨1, (), rfl, (rfl), by rw [ht]; exact hP9, va_K.moved hW.alike hK, hD9⟩, hS.F ht⟩) hS.2.2 dX1_isMeasureTrue_176
theorem in_X1_isTrueBy_X1 : ∀ w ∈ wsX10, w ∈ wsX1_isTrueBy := (fun _ h => List.mem_cons_of_mem _ (List.mem_append_left _ (List.mem_append_left _ (List.mem_append_left _ (List.mem_append_right _ h)))))
set_option maxHeartbeats 4000000 in
set_option maxRecDepth 100000 in
theorem c_X1_isTrueBy (l : Launch) (D : va_G) (cI : ClassId) (cZ : ClassId) (o : Nat) (q1 : Nat) (q2 : Nat) (q3 : Nat) (q4 : Nat) (sz : Nat) (hf : Nat → Int32) (bf : Nat → Int32) (q6 : Nat) (sr : Nat → Int32) (sc : Int32) (sl : Int32) (se : Int32) (i0 : Int32) (gH : ny_H hf) (gB : ny_BB bf) (gy : ny_R i0) (g0 : ¬ i0 = 0) : Met l yX1_isTrueBy wsX1_isTrueBy ({ frames := 5, cells := 0, slots := 0, locals := 124 }) (va_Pc [.ref o, .int i0] (ny_pre D [(cI, .int), (cZ, .boolean)] [(o, .inr (3, [.ref q1, .ref q2, .ref q3, .ref q4])), (q1, .inl (cI, 12, .inl hf)), (q2, .inl (cZ, 12, .inl bf)), (q4, .inr (2, [.ref q6, .int sc, .int sl, .int se])), (q6, .inl (cI, 7, .inl sr))] sz)) (va_Qi (fun (r : Int32) (u : (Nat → Int32) × Int32 × Int32 × Int32) => r = 1) (fun (u : (Nat → Int32) × Int32 × Int32 × Int32) t => ny_at D [(cI, .int), (cZ, .boolean)] (va_A [(o, .inr (3, [.ref q1, .ref q2, .ref q3, .ref q4])), (q1, .inl (cI, 12, .inl hf)), (q2, .inl (cZ, 12, .inl bf)), (q4, .inr (2, [.ref q6, .int sc, .int sl, .int se])), (q6, .inl (cI, 7, .inl sr))] sz) [(o, .inr (3, [.ref q1, .ref q2, .ref q3, .ref q4])), (q1, .inl (cI, 12, .inl hf)), (q2, .inl (cZ, 12, .inl bf)), (q4, .inr (2, [.ref q6, .int u.2.1, .int u.2.2.1, .int u.2.2.2])), (q6, .inl (cI, 7, .inl u.1))] t) (va_A [(o, .inr (3, [.ref q1, .ref q2, .ref q3, .ref q4])), (q1, .inl (cI, 12, .inl hf)), (q2, .inl (cZ, 12, .inl bf)), (q4, .inr (2, [.ref q6, .int sc, .int sl, .int se])), (q6, .inl (cI, 7, .inl sr))] sz)) 0 0 (va_A [(o, .inr (3, [.ref q1, .ref q2, .ref q3, .ref q4])), (q1, .inl (cI, 12, .inl hf)), (q2, .inl (cZ, 12, .inl bf)), (q4, .inr (2, [.ref q6, .int sc, .int sl, .int se])), (q6, .inl (cI, 7, .inl sr))] sz) := by
  refine Met.ofW (cc := cX1_isTrueBy) (maxL := 5) (ret := (some .boolean)) (by decide) rfl ?_
  intro p e s m args below meth c s₁ B hml hv
  obtain ⟨rfl, hsz, hP, hK, hD0, hE⟩ := hv
  have hx := B.exec
  have hb := B.bytes
  have hr := B.returns
  have hts := atoms_spec (ws := wsX1_isTrueBy) B.pre
  have hown : s.vm.findClass RX1 = some m.cls := findClass_of_methodNamed B.named
  have hlocks := B.notSynchronized
  subst hsz
  have hD := hD0.self (sz := s.heap.size)
  generalize hAe : va_A [(o, .inr (3, [.ref q1, .ref q2, .ref q3, .ref q4])), (q1, .inl (cI, 12, .inl hf)), (q2, .inl (cZ, 12, .inl bf)), (q4, .inr (2, [.ref q6, .int sc, .int sl, .int se])), (q6, .inl (cI, 7, .inl sr))] s.heap.size = A at hD hE ⊢
  have hA : ∀ q : Nat, s.heap.size ≤ q → A q := fun q h => by rw [← hAe]; exact Or.inr h
  have hS : va_S A s.heap s.heap [] := va_S.rf
  have hl := lv_entry ([.ref o, .int i0]) (n := 5) (Nat.le_of_ble_eq_true rfl)
  rw [lg_entry_eq]
  generalize (lg_sl ([.ref o, .int i0]) ++ List.replicate (5 - (lg_sl ([.ref o, .int i0])).length) Slot.unset).toArray = ls at hl ⊢
  have hl : lv_has ls 5 [(0, .ref o), (1, .int i0)] := hl
  refine lv_iload_n hx hb dX1_isTrueBy_0 rfl (lv_at hl 1 rfl) ?_
  refine vp_callSi (va_Run.run (va_runS (As := [.int i0]) (rest := []) ⟨hx, hb, hml, hown, hts⟩ (c_X1_isClockTrue l i0 (by assumption) (by assumption)) (va_cwS 1 hts gX1_isTrueBy_X1_isClockTrue rfl rfl rfl (by decide +kernel) ⟨Nat.le_of_ble_eq_true rfl, Nat.le_of_ble_eq_true rfl⟩) ⟨ny_blindT, fun U hU hW => ⟨rfl, trivial⟩⟩ rfl rfl hl.1 rfl (lv_room (Nat.le_of_ble_eq_true rfl)) dX1_isTrueBy_1 ⟨Nat.le_of_ble_eq_true rfl, Nat.le_of_ble_eq_true rfl⟩)) (fun r_1 hw_1 => ?_)
  have hw_1 : r_1 = 1 := hw_1
  subst hw_1
  refine lv_if_ne (tgt := 9) hx hb dX1_isTrueBy_4 (by decide) (fun c_4 => ?_) (fun c_4 => absurd c_4 (show ¬ ((1 : Int32) = 0) by  decide))
  refine lv_iconst (v := 0) hx hb dX1_isTrueBy_9 (by decide) ?_
  refine ny_ti (x2 := nI 0) (rfl) ?_
  refine lv_istore_n (lv' := [(2, .int (nI 0)), (0, .ref o), (1, .int i0)]) hx hb dX1_isTrueBy_10 rfl hl (by decide) rfl (fun ls hl => ?_)
  refine ny_lw 11 5 (fun u : Nat × (Nat → Int32) × Int32 × Int32 × Int32 => u.1 ≤ 12) (fun u => 12 - u.1) (fun u => [(0, .ref o), (1, .int i0), (2, .int (nI u.1))]) (fun u => [(o, .inr (3, [.ref q1, .ref q2, .ref q3, .ref q4])), (q1, .inl (cI, 12, .inl hf)), (q2, .inl (cZ, 12, .inl bf)), (q4, .inr (2, [.ref q6, .int u.2.2.1, .int u.2.2.2.1, .int u.2.2.2.2])), (q6, .inl (cI, 7, .inl u.2.1))]) (fun u hu ih ls H locs hl hP hD hS => ?_) (0, sr, sc, sl, se) (show 0 ≤ 12 from by decide) (lv_sub hl [1, 2, 0] rfl) (hP.sub (ws' := [(o, .inr (3, [.ref q1, .ref q2, .ref q3, .ref q4])), (q1, .inl (cI, 12, .inl hf)), (q2, .inl (cZ, 12, .inl bf)), (q4, .inr (2, [.ref q6, .int sc, .int sl, .int se])), (q6, .inl (cI, 7, .inl sr))]) [0, 1, 2, 3, 4] rfl) (hD.sub (ws' := [(o, .inr (3, [.ref q1, .ref q2, .ref q3, .ref q4])), (q1, .inl (cI, 12, .inl hf)), (q2, .inl (cZ, 12, .inl bf)), (q4, .inr (2, [.ref q6, .int sc, .int sl, .int se])), (q6, .inl (cI, 7, .inl sr))]) [0, 1, 2, 3, 4] (by decide) rfl) hS
  obtain ⟨k, ur, uc, ul, ue⟩ := u
  have hk : k ≤ 12 := hu
  have hl : lv_has ls 5 [(0, .ref o), (1, .int i0), (2, .int (nI k))] := hl
  have hP : va_P D vwCl [(o, .inr (3, [.ref q1, .ref q2, .ref q3, .ref q4])), (q1, .inl (cI, 12, .inl hf)), (q2, .inl (cZ, 12, .inl bf)), (q4, .inr (2, [.ref q6, .int uc, .int ul, .int ue])), (q6, .inl (cI, 7, .inl ur))] H := hP
  have hD : va_D A [(o, .inr (3, [.ref q1, .ref q2, .ref q3, .ref q4])), (q1, .inl (cI, 12, .inl hf)), (q2, .inl (cZ, 12, .inl bf)), (q4, .inr (2, [.ref q6, .int uc, .int ul, .int ue])), (q6, .inl (cI, 7, .inl ur))] := hD
  refine lv_iload_n hx hb dX1_isTrueBy_11 rfl (lv_at hl 2 rfl) ?_
  refine lv_bipush (v := 12) hx hb dX1_isTrueBy_12 (by decide) ?_
  refine lv_icmp_ge (tgt := 92) hx hb dX1_isTrueBy_14 (by decide) (fun c_14 => ?_) (fun c_14 => ?_)
  · refine lv_iconst (v := 1) hx hb dX1_isTrueBy_92 (by decide) ?_
    have hP9 := hP.sub (ws' := [(o, .inr (3, [.ref q1, .ref q2, .ref q3, .ref q4])), (q1, .inl (cI, 12, .inl hf)), (q2, .inl (cZ, 12, .inl bf)), (q4, .inr (2, [.ref q6, .int uc, .int ul, .int ue])), (q6, .inl (cI, 7, .inl ur))]) [0, 1, 2, 3, 4] rfl
    have hD9 := hD.sub (ws' := [(o, .inr (3, [.ref q1, .ref q2, .ref q3, .ref q4])), (q1, .inl (cI, 12, .inl hf)), (q2, .inl (cZ, 12, .inl bf)), (q4, .inr (2, [.ref q6, .int uc, .int ul, .int ue])), (q6, .inl (cI, 7, .inl ur))]) [0, 1, 2, 3, 4] (by decide) rfl
    exact W.zret (v := 1) hx hb hr (by decide) (fun t ht hW => ⟨⟨1, (ur, uc, ul, ue), rfl, (rfl), by rw [ht]; exact hP9, va_K.moved hW.alike hK, hD9⟩, hS.F ht⟩) hS.2.2 dX1_isTrueBy_93
  · have hk2 := n_lt12 hk c_14
    have hkR := n_kH gH hk2
    have hkB := n_kB gB hk2
    refine lv_aload_n hx hb dX1_isTrueBy_17 rfl (lv_at hl 0 rfl) ?_
    refine va_get (D := D) (ci := 3) (v := .ref q1) (C := RX1) (T := TX1) (N := 4) hx hb hts in_X1_isTrueBy_X1 hown hK hP 0 rfl rfl 0 (by decide) (hts (.fieldLink RX1 9 "Nearestclock" "held" "[I") (List.mem_of_getElem? (i := 1) rfl)) (fun _ h9 => h9) rfl dX1_isTrueBy_18 ?_
    refine lv_iload_n hx hb dX1_isTrueBy_21 rfl (lv_at hl 2 rfl) ?_
    refine va_iald hx hb hK hP 1 0 rfl rfl (vp_in_nI hk2 (by decide)) dX1_isTrueBy_22 ?_
    refine lv_istore_n (lv' := [(3, .int (hf (nI k).toNatClampNeg)), (0, .ref o), (1, .int i0), (2, .int (nI k))]) hx hb dX1_isTrueBy_23 rfl hl (by decide) rfl (fun ls hl => ?_)
    refine lv_iload_n hx hb dX1_isTrueBy_24 rfl (lv_at hl 0 rfl) ?_
    refine lv_iload_n hx hb dX1_isTrueBy_25 rfl (lv_at hl 2 rfl) ?_
    refine vp_callSi (va_Run.run (va_runS (As := [.int (hf (nI k).toNatClampNeg), .int i0]) (rest := []) ⟨hx, hb, hml, hown, hts⟩ (c_X1_isRestTrue l (hf (nI k).toNatClampNeg) i0 hkR (by assumption) (by assumption)) (va_cwS 2 hts gX1_isTrueBy_X1_isRestTrue rfl rfl rfl (by decide +kernel) ⟨Nat.le_of_ble_eq_true rfl, Nat.le_of_ble_eq_true rfl⟩) ⟨ny_blindT, fun U hU hW => ⟨rfl, trivial⟩⟩ rfl rfl hl.1 rfl (lv_room (Nat.le_of_ble_eq_true rfl)) dX1_isTrueBy_26 ⟨Nat.le_of_ble_eq_true rfl, Nat.le_of_ble_eq_true rfl⟩)) (fun r_26 hw_26 => ?_)
    have hw_26 : r_26 = 1 := hw_26
    subst hw_26
    refine lv_if_eq (tgt := 49) hx hb dX1_isTrueBy_29 (by decide) (fun c_29 => absurd c_29 (show ¬ ((1 : Int32) = 0) by  decide)) (fun c_29 => ?_)
    refine lv_iload_n hx hb dX1_isTrueBy_32 rfl (lv_at hl 0 rfl) ?_
    refine lv_aload_n hx hb dX1_isTrueBy_33 rfl (lv_at hl 1 rfl) ?_
    refine lv_iload_n hx hb dX1_isTrueBy_34 rfl (lv_at hl 3 rfl) ?_
    refine vp_callSi (va_Run.run (va_runV (As := [.int (nI k)]) (rest := [.int (hf (nI k).toNatClampNeg)]) ⟨hx, hb, hml, hown, hts⟩ (c_X1_isUnder l D cI cZ o q1 q2 q3 q4 H.size hf bf (nI k) (vp_in_nI hk2 (by decide)) hkB) (cwV 1 hts gX1_isTrueBy_X1_isUnder rfl rfl rfl (by decide +kernel) ⟨Nat.le_of_ble_eq_true rfl, Nat.le_of_ble_eq_true rfl⟩) ⟨ny_blind, va_recv hK hP (ci := 3) (q0 := 0) rfl rfl, fun U hU hW => ⟨rfl, ny_preU hE hP hK hD hS hA [0, 1, 2] rfl (by decide) rfl [0, 1] rfl U hU hW⟩⟩ rfl rfl hl.1 rfl (lv_room (Nat.le_of_ble_eq_true rfl)) dX1_isTrueBy_35 ⟨Nat.le_of_ble_eq_true rfl, Nat.le_of_ble_eq_true rfl⟩)) (fun r_35 hw_35 => ?_)
    have hw_35 : r_35 = f_un (hf (nI k).toNatClampNeg) (bf (nI k).toNatClampNeg) := hw_35
    subst hw_35
    refine lv_iload_n hx hb dX1_isTrueBy_38 rfl (lv_at hl 2 rfl) ?_
    refine vp_callSi (va_Run.run (va_runS (As := [.int (hf (nI k).toNatClampNeg), .int (f_un (hf (nI k).toNatClampNeg) (bf (nI k).toNatClampNeg)), .int i0]) (rest := []) ⟨hx, hb, hml, hown, hts⟩ (c_X1_isSignTrue l (hf (nI k).toNatClampNeg) (f_un (hf (nI k).toNatClampNeg) (bf (nI k).toNatClampNeg)) i0 hkR (by assumption) (by assumption) (f_un_B hkB)) (va_cwS 3 hts gX1_isTrueBy_X1_isSignTrue rfl rfl rfl (by decide +kernel) ⟨Nat.le_of_ble_eq_true rfl, Nat.le_of_ble_eq_true rfl⟩) ⟨ny_blindT, fun U hU hW => ⟨rfl, trivial⟩⟩ rfl rfl hl.1 rfl (lv_room (Nat.le_of_ble_eq_true rfl)) dX1_isTrueBy_39 ⟨Nat.le_of_ble_eq_true rfl, Nat.le_of_ble_eq_true rfl⟩)) (fun r_39 hw_39 => ?_)
    have hw_39 : r_39 = 1 := hw_39
    subst hw_39
    refine lv_if_eq (tgt := 49) hx hb dX1_isTrueBy_42 (by decide) (fun c_42 => absurd c_42 (show ¬ ((1 : Int32) = 0) by  decide)) (fun c_42 => ?_)
    refine lv_iconst (v := 1) hx hb dX1_isTrueBy_45 (by decide) ?_
    refine lv_goto (tgt := 50) hx hb dX1_isTrueBy_46 (by decide) ?_
    refine lv_istore (lv' := [(4, .int 1), (3, .int (hf (nI k).toNatClampNeg)), (0, .ref o), (1, .int i0), (2, .int (nI k))]) hx hb dX1_isTrueBy_50 hl (by decide) rfl (fun ls hl => ?_)
    refine lv_iload hx hb dX1_isTrueBy_52 (lv_at hl 0 rfl) ?_
    refine lv_if_eq (tgt := 84) hx hb dX1_isTrueBy_54 (by decide) (fun c_54 => absurd c_54 (show ¬ ((1 : Int32) = 0) by  decide)) (fun c_54 => ?_)
    refine lv_aload_n hx hb dX1_isTrueBy_57 rfl (lv_at hl 2 rfl) ?_
    refine lv_iload_n hx hb dX1_isTrueBy_58 rfl (lv_at hl 1 rfl) ?_
    refine lv_iload_n hx hb dX1_isTrueBy_59 rfl (lv_at hl 3 rfl) ?_
    refine ny_i (wc := [(o, .inr (3, [.ref q1, .ref q2, .ref q3, .ref q4])), (q4, .inr (2, [.ref q6, .int uc, .int ul, .int ue])), (q6, .inl (cI, 7, .inl ur))]) (wr := [(q1, .inl (cI, 12, .inl hf)), (q2, .inl (cZ, 12, .inl bf))]) hP hD hS hA [0, 3, 4] [1, 2] rfl rfl (by decide) (by decide) (va_runV (As := [.int (hf (nI k).toNatClampNeg), .int i0]) (rest := []) ⟨hx, hb, hml, hown, hts⟩ (c_X1_isResidueTrue l D cI o q1 q2 q3 q4 q6 H.size ur uc ul ue (hf (nI k).toNatClampNeg) i0 hkR (by assumption) (by assumption)) (cwV 2 hts gX1_isTrueBy_X1_isResidueTrue rfl rfl rfl (by decide +kernel) ⟨Nat.le_of_ble_eq_true rfl, Nat.le_of_ble_eq_true rfl⟩) ⟨ny_blind, va_recv hK hP (ci := 3) (q0 := 0) rfl rfl, fun U hU hW => ⟨rfl, ny_preU hE hP hK hD hS hA [0, 3, 4] rfl (by decide) rfl [0] rfl U hU hW⟩⟩ rfl rfl hl.1 rfl (lv_room (Nat.le_of_ble_eq_true rfl)) dX1_isTrueBy_60 ⟨Nat.le_of_ble_eq_true rfl, Nat.le_of_ble_eq_true rfl⟩) (fun r_60 u H locs hw_60 hP hD hS => ?_)
    have hP : va_P D vwCl [(q1, .inl (cI, 12, .inl hf)), (q2, .inl (cZ, 12, .inl bf)), (o, .inr (3, [.ref q1, .ref q2, .ref q3, .ref q4])), (q4, .inr (2, [.ref q6, .int (nI (f_ln (hf (nI k).toNatClampNeg) i0)), .int (f_la (hf (nI k).toNatClampNeg) i0), .int 1])), (q6, .inl (cI, 7, .inl (f_row (f_row ur (hf (nI k).toNatClampNeg) i0 (f_ln (hf (nI k).toNatClampNeg) i0)) (hf (nI k).toNatClampNeg) i0 (f_ln (hf (nI k).toNatClampNeg) i0))))] H := hP
    have hD : va_D A [(q1, .inl (cI, 12, .inl hf)), (q2, .inl (cZ, 12, .inl bf)), (o, .inr (3, [.ref q1, .ref q2, .ref q3, .ref q4])), (q4, .inr (2, [.ref q6, .int (nI (f_ln (hf (nI k).toNatClampNeg) i0)), .int (f_la (hf (nI k).toNatClampNeg) i0), .int 1])), (q6, .inl (cI, 7, .inl (f_row (f_row ur (hf (nI k).toNatClampNeg) i0 (f_ln (hf (nI k).toNatClampNeg) i0)) (hf (nI k).toNatClampNeg) i0 (f_ln (hf (nI k).toNatClampNeg) i0))))] := hD
    have hw_60 : r_60 = 1 := hw_60
    subst hw_60
    refine lv_if_eq (tgt := 84) hx hb dX1_isTrueBy_63 (by decide) (fun c_63 => absurd c_63 (show ¬ ((1 : Int32) = 0) by  decide)) (fun c_63 => ?_)
    refine lv_aload_n hx hb dX1_isTrueBy_66 rfl (lv_at hl 2 rfl) ?_
    refine lv_iload_n hx hb dX1_isTrueBy_67 rfl (lv_at hl 4 rfl) ?_
    refine lv_iload_n hx hb dX1_isTrueBy_68 rfl (lv_at hl 3 rfl) ?_
    refine vp_callSi (va_Run.run (va_runV (As := [.int (nI k), .int i0]) (rest := []) ⟨hx, hb, hml, hown, hts⟩ (c_X1_isRingTrue l D cI cZ o q1 q2 q3 q4 H.size hf bf (nI k) i0 (vp_in_nI hk2 (by decide)) (by assumption) (by assumption) (by assumption)) (cwV 2 hts gX1_isTrueBy_X1_isRingTrue rfl rfl rfl (by decide +kernel) ⟨Nat.le_of_ble_eq_true rfl, Nat.le_of_ble_eq_true rfl⟩) ⟨ny_blind, va_recv hK hP (ci := 3) (q0 := 2) rfl rfl, fun U hU hW => ⟨rfl, ny_preU hE hP hK hD hS hA [2, 0, 1] rfl (by decide) rfl [0, 1] rfl U hU hW⟩⟩ rfl rfl hl.1 rfl (lv_room (Nat.le_of_ble_eq_true rfl)) dX1_isTrueBy_69 ⟨Nat.le_of_ble_eq_true rfl, Nat.le_of_ble_eq_true rfl⟩)) (fun r_69 hw_69 => ?_)
    have hw_69 : r_69 = 1 := hw_69
    subst hw_69
    refine lv_if_eq (tgt := 84) hx hb dX1_isTrueBy_72 (by decide) (fun c_72 => absurd c_72 (show ¬ ((1 : Int32) = 0) by  decide)) (fun c_72 => ?_)
    refine lv_aload_n hx hb dX1_isTrueBy_75 rfl (lv_at hl 2 rfl) ?_
    refine lv_iload_n hx hb dX1_isTrueBy_76 rfl (lv_at hl 1 rfl) ?_
    refine lv_iload_n hx hb dX1_isTrueBy_77 rfl (lv_at hl 3 rfl) ?_
    refine ny_i (wc := [(o, .inr (3, [.ref q1, .ref q2, .ref q3, .ref q4])), (q4, .inr (2, [.ref q6, .int (nI (f_ln (hf (nI k).toNatClampNeg) i0)), .int (f_la (hf (nI k).toNatClampNeg) i0), .int 1])), (q6, .inl (cI, 7, .inl (f_row (f_row ur (hf (nI k).toNatClampNeg) i0 (f_ln (hf (nI k).toNatClampNeg) i0)) (hf (nI k).toNatClampNeg) i0 (f_ln (hf (nI k).toNatClampNeg) i0))))]) (wr := [(q1, .inl (cI, 12, .inl hf)), (q2, .inl (cZ, 12, .inl bf))]) hP hD hS hA [2, 3, 4] [0, 1] rfl rfl (by decide) (by decide) (va_runV (As := [.int (hf (nI k).toNatClampNeg), .int i0]) (rest := []) ⟨hx, hb, hml, hown, hts⟩ (c_X1_isMeasureTrue l D cI o q1 q2 q3 q4 q6 H.size (f_row (f_row ur (hf (nI k).toNatClampNeg) i0 (f_ln (hf (nI k).toNatClampNeg) i0)) (hf (nI k).toNatClampNeg) i0 (f_ln (hf (nI k).toNatClampNeg) i0)) (nI (f_ln (hf (nI k).toNatClampNeg) i0)) (f_la (hf (nI k).toNatClampNeg) i0) 1 (hf (nI k).toNatClampNeg) i0 hkR (by assumption) (by assumption)) (cwV 2 hts gX1_isTrueBy_X1_isMeasureTrue rfl rfl rfl (by decide +kernel) ⟨Nat.le_of_ble_eq_true rfl, Nat.le_of_ble_eq_true rfl⟩) ⟨ny_blind, va_recv hK hP (ci := 3) (q0 := 2) rfl rfl, fun U hU hW => ⟨rfl, ny_preU hE hP hK hD hS hA [2, 3, 4] rfl (by decide) rfl [0] rfl U hU hW⟩⟩ rfl rfl hl.1 rfl (lv_room (Nat.le_of_ble_eq_true rfl)) dX1_isTrueBy_78 ⟨Nat.le_of_ble_eq_true rfl, Nat.le_of_ble_eq_true rfl⟩) (fun r_78 u H locs hw_78 hP hD hS => ?_)
    have hP : va_P D vwCl [(q1, .inl (cI, 12, .inl hf)), (q2, .inl (cZ, 12, .inl bf)), (o, .inr (3, [.ref q1, .ref q2, .ref q3, .ref q4])), (q4, .inr (2, [.ref q6, .int (nI (f_ln (hf (nI k).toNatClampNeg) i0)), .int (f_la (hf (nI k).toNatClampNeg) i0), .int 1])), (q6, .inl (cI, 7, .inl (f_row (f_row (f_row ur (hf (nI k).toNatClampNeg) i0 (f_ln (hf (nI k).toNatClampNeg) i0)) (hf (nI k).toNatClampNeg) i0 (f_ln (hf (nI k).toNatClampNeg) i0)) (hf (nI k).toNatClampNeg) i0 (f_ln (hf (nI k).toNatClampNeg) i0))))] H := hP
    have hD : va_D A [(q1, .inl (cI, 12, .inl hf)), (q2, .inl (cZ, 12, .inl bf)), (o, .inr (3, [.ref q1, .ref q2, .ref q3, .ref q4])), (q4, .inr (2, [.ref q6, .int (nI (f_ln (hf (nI k).toNatClampNeg) i0)), .int (f_la (hf (nI k).toNatClampNeg) i0), .int 1])), (q6, .inl (cI, 7, .inl (f_row (f_row (f_row ur (hf (nI k).toNatClampNeg) i0 (f_ln (hf (nI k).toNatClampNeg) i0)) (hf (nI k).toNatClampNeg) i0 (f_ln (hf (nI k).toNatClampNeg) i0)) (hf (nI k).toNatClampNeg) i0 (f_ln (hf (nI k).toNatClampNeg) i0))))] := hD
    have hw_78 : r_78 = 1 := hw_78
    subst hw_78
    refine lv_if_ne (tgt := 86) hx hb dX1_isTrueBy_81 (by decide) (fun c_81 => ?_) (fun c_81 => absurd c_81 (show ¬ ((1 : Int32) = 0) by  decide))
    refine lv_iinc (v := nI (k + 1)) (lv' := [(2, .int (nI (k + 1))), (4, .int 1), (3, .int (hf (nI k).toNatClampNeg)), (0, .ref o), (1, .int i0)]) hx hb dX1_isTrueBy_86 hl (k := 4) rfl (n_incN k) (by decide) rfl (fun ls hl => ?_)
    refine lv_goto (tgt := 11) hx hb dX1_isTrueBy_89 (by decide) ?_
    exact ih (k + 1, f_row (f_row (f_row ur (hf (nI k).toNatClampNeg) i0 (f_ln (hf (nI k).toNatClampNeg) i0)) (hf (nI k).toNatClampNeg) i0 (f_ln (hf (nI k).toNatClampNeg) i0)) (hf (nI k).toNatClampNeg) i0 (f_ln (hf (nI k).toNatClampNeg) i0), nI (f_ln (hf (nI k).toNatClampNeg) i0), f_la (hf (nI k).toNatClampNeg) i0, 1) (show (k + 1) ≤ 12 from by omega) (show 12 - (k + 1) < 12 - k by omega) _ _ _ (lv_sub hl [3, 4, 0] rfl) (hP.sub (ws' := [(o, .inr (3, [.ref q1, .ref q2, .ref q3, .ref q4])), (q1, .inl (cI, 12, .inl hf)), (q2, .inl (cZ, 12, .inl bf)), (q4, .inr (2, [.ref q6, .int ((nI (f_ln (hf (nI k).toNatClampNeg) i0))), .int ((f_la (hf (nI k).toNatClampNeg) i0)), .int 1])), (q6, .inl (cI, 7, .inl (f_row (f_row (f_row ur (hf (nI k).toNatClampNeg) i0 (f_ln (hf (nI k).toNatClampNeg) i0)) (hf (nI k).toNatClampNeg) i0 (f_ln (hf (nI k).toNatClampNeg) i0)) (hf (nI k).toNatClampNeg) i0 (f_ln (hf (nI k).toNatClampNeg) i0))))]) [2, 0, 1, 3, 4] rfl) (hD.sub (ws' := [(o, .inr (3, [.ref q1, .ref q2, .ref q3, .ref q4])), (q1, .inl (cI, 12, .inl hf)), (q2, .inl (cZ, 12, .inl bf)), (q4, .inr (2, [.ref q6, .int ((nI (f_ln (hf (nI k).toNatClampNeg) i0))), .int ((f_la (hf (nI k).toNatClampNeg) i0)), .int 1])), (q6, .inl (cI, 7, .inl (f_row (f_row (f_row ur (hf (nI k).toNatClampNeg) i0 (f_ln (hf (nI k).toNatClampNeg) i0)) (hf (nI k).toNatClampNeg) i0 (f_ln (hf (nI k).toNatClampNeg) i0)) (hf (nI k).toNatClampNeg) i0 (f_ln (hf (nI k).toNatClampNeg) i0))))]) [2, 0, 1, 3, 4] (by decide) rfl) hS
theorem in_X1_isTrue_X1 : ∀ w ∈ wsX10, w ∈ wsX1_isTrue := (fun _ h => List.mem_cons_of_mem _ (List.mem_append_left _ (List.mem_append_left _ (List.mem_append_left _ (List.mem_append_right _ h)))))
set_option maxHeartbeats 4000000 in
set_option maxRecDepth 100000 in
theorem c_X1_isTrue (l : Launch) (D : va_G) (cI : ClassId) (cZ : ClassId) (o : Nat) (q1 : Nat) (q2 : Nat) (q3 : Nat) (q4 : Nat) (sz : Nat) (hf : Nat → Int32) (bf : Nat → Int32) (q6 : Nat) (sr : Nat → Int32) (sc : Int32) (sl : Int32) (se : Int32) (gH : ny_H hf) (gB : ny_BB bf) : Met l yX1_isTrue wsX1_isTrue ({ frames := 6, cells := 0, slots := 0, locals := 148 }) (va_Pc [.ref o] (ny_pre D [(cI, .int), (cZ, .boolean)] [(o, .inr (3, [.ref q1, .ref q2, .ref q3, .ref q4])), (q1, .inl (cI, 12, .inl hf)), (q2, .inl (cZ, 12, .inl bf)), (q4, .inr (2, [.ref q6, .int sc, .int sl, .int se])), (q6, .inl (cI, 7, .inl sr))] sz)) (va_Qi (fun (r : Int32) (u : (Nat → Int32) × Int32 × Int32 × Int32) => r = 1) (fun (u : (Nat → Int32) × Int32 × Int32 × Int32) t => ny_at D [(cI, .int), (cZ, .boolean)] (va_A [(o, .inr (3, [.ref q1, .ref q2, .ref q3, .ref q4])), (q1, .inl (cI, 12, .inl hf)), (q2, .inl (cZ, 12, .inl bf)), (q4, .inr (2, [.ref q6, .int sc, .int sl, .int se])), (q6, .inl (cI, 7, .inl sr))] sz) [(o, .inr (3, [.ref q1, .ref q2, .ref q3, .ref q4])), (q1, .inl (cI, 12, .inl hf)), (q2, .inl (cZ, 12, .inl bf)), (q4, .inr (2, [.ref q6, .int u.2.1, .int u.2.2.1, .int u.2.2.2])), (q6, .inl (cI, 7, .inl u.1))] t) (va_A [(o, .inr (3, [.ref q1, .ref q2, .ref q3, .ref q4])), (q1, .inl (cI, 12, .inl hf)), (q2, .inl (cZ, 12, .inl bf)), (q4, .inr (2, [.ref q6, .int sc, .int sl, .int se])), (q6, .inl (cI, 7, .inl sr))] sz)) 0 0 (va_A [(o, .inr (3, [.ref q1, .ref q2, .ref q3, .ref q4])), (q1, .inl (cI, 12, .inl hf)), (q2, .inl (cZ, 12, .inl bf)), (q4, .inr (2, [.ref q6, .int sc, .int sl, .int se])), (q6, .inl (cI, 7, .inl sr))] sz) := by
  refine Met.ofW (cc := cX1_isTrue) (maxL := 2) (ret := (some .boolean)) (by decide) rfl ?_
  intro p e s m args below meth c s₁ B hml hv
  obtain ⟨rfl, hsz, hP, hK, hD0, hE⟩ := hv
  have hx := B.exec
  have hb := B.bytes
  have hr := B.returns
  have hts := atoms_spec (ws := wsX1_isTrue) B.pre
  have hown : s.vm.findClass RX1 = some m.cls := findClass_of_methodNamed B.named
  have hlocks := B.notSynchronized
  subst hsz
  have hD := hD0.self (sz := s.heap.size)
  generalize hAe : va_A [(o, .inr (3, [.ref q1, .ref q2, .ref q3, .ref q4])), (q1, .inl (cI, 12, .inl hf)), (q2, .inl (cZ, 12, .inl bf)), (q4, .inr (2, [.ref q6, .int sc, .int sl, .int se])), (q6, .inl (cI, 7, .inl sr))] s.heap.size = A at hD hE ⊢
  have hA : ∀ q : Nat, s.heap.size ≤ q → A q := fun q h => by rw [← hAe]; exact Or.inr h
  have hS : va_S A s.heap s.heap [] := va_S.rf
  have hl := lv_entry ([.ref o]) (n := 2) (Nat.le_of_ble_eq_true rfl)
  rw [lg_entry_eq]
  generalize (lg_sl ([.ref o]) ++ List.replicate (2 - (lg_sl ([.ref o])).length) Slot.unset).toArray = ls at hl ⊢
  have hl : lv_has ls 2 [(0, .ref o)] := hl
  refine lv_iconst (v := 0) hx hb dX1_isTrue_0 (by decide) ?_
  refine ny_ti (x2 := nI 0) (rfl) ?_
  refine lv_istore_n (lv' := [(1, .int (nI 0)), (0, .ref o)]) hx hb dX1_isTrue_1 rfl hl (by decide) rfl (fun ls hl => ?_)
  refine ny_lw 2 2 (fun u : Nat × (Nat → Int32) × Int32 × Int32 × Int32 => u.1 ≤ 12) (fun u => 12 - u.1) (fun u => [(0, .ref o), (1, .int (nI u.1))]) (fun u => [(o, .inr (3, [.ref q1, .ref q2, .ref q3, .ref q4])), (q1, .inl (cI, 12, .inl hf)), (q2, .inl (cZ, 12, .inl bf)), (q4, .inr (2, [.ref q6, .int u.2.2.1, .int u.2.2.2.1, .int u.2.2.2.2])), (q6, .inl (cI, 7, .inl u.2.1))]) (fun u hu ih ls H locs hl hP hD hS => ?_) (0, sr, sc, sl, se) (show 0 ≤ 12 from by decide) (lv_sub hl [1, 0] rfl) (hP.sub (ws' := [(o, .inr (3, [.ref q1, .ref q2, .ref q3, .ref q4])), (q1, .inl (cI, 12, .inl hf)), (q2, .inl (cZ, 12, .inl bf)), (q4, .inr (2, [.ref q6, .int sc, .int sl, .int se])), (q6, .inl (cI, 7, .inl sr))]) [0, 1, 2, 3, 4] rfl) (hD.sub (ws' := [(o, .inr (3, [.ref q1, .ref q2, .ref q3, .ref q4])), (q1, .inl (cI, 12, .inl hf)), (q2, .inl (cZ, 12, .inl bf)), (q4, .inr (2, [.ref q6, .int sc, .int sl, .int se])), (q6, .inl (cI, 7, .inl sr))]) [0, 1, 2, 3, 4] (by decide) rfl) hS
  obtain ⟨k, ur, uc, ul, ue⟩ := u
  have hk : k ≤ 12 := hu
  have hl : lv_has ls 2 [(0, .ref o), (1, .int (nI k))] := hl
  have hP : va_P D vwCl [(o, .inr (3, [.ref q1, .ref q2, .ref q3, .ref q4])), (q1, .inl (cI, 12, .inl hf)), (q2, .inl (cZ, 12, .inl bf)), (q4, .inr (2, [.ref q6, .int uc, .int ul, .int ue])), (q6, .inl (cI, 7, .inl ur))] H := hP
  have hD : va_D A [(o, .inr (3, [.ref q1, .ref q2, .ref q3, .ref q4])), (q1, .inl (cI, 12, .inl hf)), (q2, .inl (cZ, 12, .inl bf)), (q4, .inr (2, [.ref q6, .int uc, .int ul, .int ue])), (q6, .inl (cI, 7, .inl ur))] := hD
  refine lv_iload_n hx hb dX1_isTrue_2 rfl (lv_at hl 1 rfl) ?_
  refine lv_bipush (v := 12) hx hb dX1_isTrue_3 (by decide) ?_
  refine lv_icmp_ge (tgt := 38) hx hb dX1_isTrue_5 (by decide) (fun c_5 => ?_) (fun c_5 => ?_)
  · refine lv_iconst (v := 1) hx hb dX1_isTrue_38 (by decide) ?_
    have hP9 := hP.sub (ws' := [(o, .inr (3, [.ref q1, .ref q2, .ref q3, .ref q4])), (q1, .inl (cI, 12, .inl hf)), (q2, .inl (cZ, 12, .inl bf)), (q4, .inr (2, [.ref q6, .int uc, .int ul, .int ue])), (q6, .inl (cI, 7, .inl ur))]) [0, 1, 2, 3, 4] rfl
    have hD9 := hD.sub (ws' := [(o, .inr (3, [.ref q1, .ref q2, .ref q3, .ref q4])), (q1, .inl (cI, 12, .inl hf)), (q2, .inl (cZ, 12, .inl bf)), (q4, .inr (2, [.ref q6, .int uc, .int ul, .int ue])), (q6, .inl (cI, 7, .inl ur))]) [0, 1, 2, 3, 4] (by decide) rfl
    exact W.zret (v := 1) hx hb hr (by decide) (fun t ht hW => ⟨⟨1, (ur, uc, ul, ue), rfl, (rfl), by rw [ht]; exact hP9, va_K.moved hW.alike hK, hD9⟩, hS.F ht⟩) hS.2.2 dX1_isTrue_39
  · have hk2 := n_lt12 hk c_5
    have hkR := n_kH gH hk2
    refine lv_aload_n hx hb dX1_isTrue_8 rfl (lv_at hl 0 rfl) ?_
    refine va_get (D := D) (ci := 3) (v := .ref q1) (C := RX1) (T := TX1) (N := 4) hx hb hts in_X1_isTrue_X1 hown hK hP 0 rfl rfl 0 (by decide) (hts (.fieldLink RX1 9 "Nearestclock" "held" "[I") (List.mem_of_getElem? (i := 1) rfl)) (fun _ h9 => h9) rfl dX1_isTrue_9 ?_
    refine lv_iload_n hx hb dX1_isTrue_12 rfl (lv_at hl 1 rfl) ?_
    refine va_iald hx hb hK hP 1 0 rfl rfl (vp_in_nI hk2 (by decide)) dX1_isTrue_13 ?_
    refine lv_if_eq (tgt := 32) hx hb dX1_isTrue_14 (by decide) (fun c_14 => ?_) (fun c_14 => ?_)
    · refine lv_iinc (v := nI (k + 1)) (lv' := [(1, .int (nI (k + 1))), (0, .ref o)]) hx hb dX1_isTrue_32 hl (k := 1) rfl (n_incN k) (by decide) rfl (fun ls hl => ?_)
      refine lv_goto (tgt := 2) hx hb dX1_isTrue_35 (by decide) ?_
      exact ih (k + 1, ur, uc, ul, ue) (show (k + 1) ≤ 12 from by omega) (show 12 - (k + 1) < 12 - k by omega) _ _ _ (lv_sub hl [1, 0] rfl) (hP.sub (ws' := [(o, .inr (3, [.ref q1, .ref q2, .ref q3, .ref q4])), (q1, .inl (cI, 12, .inl hf)), (q2, .inl (cZ, 12, .inl bf)), (q4, .inr (2, [.ref q6, .int uc, .int ul, .int ue])), (q6, .inl (cI, 7, .inl ur))]) [0, 1, 2, 3, 4] rfl) (hD.sub (ws' := [(o, .inr (3, [.ref q1, .ref q2, .ref q3, .ref q4])), (q1, .inl (cI, 12, .inl hf)), (q2, .inl (cZ, 12, .inl bf)), (q4, .inr (2, [.ref q6, .int uc, .int ul, .int ue])), (q6, .inl (cI, 7, .inl ur))]) [0, 1, 2, 3, 4] (by decide) rfl) hS
    · refine lv_aload_n hx hb dX1_isTrue_17 rfl (lv_at hl 0 rfl) ?_
      refine lv_aload_n hx hb dX1_isTrue_18 rfl (lv_at hl 0 rfl) ?_
      refine va_get (D := D) (ci := 3) (v := .ref q1) (C := RX1) (T := TX1) (N := 4) hx hb hts in_X1_isTrue_X1 hown hK hP 0 rfl rfl 0 (by decide) (hts (.fieldLink RX1 9 "Nearestclock" "held" "[I") (List.mem_of_getElem? (i := 1) rfl)) (fun _ h9 => h9) rfl dX1_isTrue_19 ?_
      refine lv_iload_n hx hb dX1_isTrue_22 rfl (lv_at hl 1 rfl) ?_
      refine va_iald hx hb hK hP 1 0 rfl rfl (vp_in_nI hk2 (by decide)) dX1_isTrue_23 ?_
      refine ny_i (wc := [(o, .inr (3, [.ref q1, .ref q2, .ref q3, .ref q4])), (q1, .inl (cI, 12, .inl hf)), (q2, .inl (cZ, 12, .inl bf)), (q4, .inr (2, [.ref q6, .int uc, .int ul, .int ue])), (q6, .inl (cI, 7, .inl ur))]) (wr := []) hP hD hS hA [0, 1, 2, 3, 4] [] rfl rfl (by decide) (by decide) (va_runV (As := [.int (hf (nI k).toNatClampNeg)]) (rest := []) ⟨hx, hb, hml, hown, hts⟩ (c_X1_isTrueBy l D cI cZ o q1 q2 q3 q4 H.size hf bf q6 ur uc ul ue (hf (nI k).toNatClampNeg) (by assumption) (by assumption) hkR c_14) (cwV 1 hts gX1_isTrue_X1_isTrueBy rfl rfl rfl (by decide +kernel) ⟨Nat.le_of_ble_eq_true rfl, Nat.le_of_ble_eq_true rfl⟩) ⟨ny_blind, va_recv hK hP (ci := 3) (q0 := 0) rfl rfl, fun U hU hW => ⟨rfl, ny_preU hE hP hK hD hS hA [0, 1, 2, 3, 4] rfl (by decide) rfl [0, 1] rfl U hU hW⟩⟩ rfl rfl hl.1 rfl (lv_room (Nat.le_of_ble_eq_true rfl)) dX1_isTrue_24 ⟨Nat.le_of_ble_eq_true rfl, Nat.le_of_ble_eq_true rfl⟩) (fun r_24 u H locs hw_24 hP hD hS => ?_)
      obtain ⟨ur_24, uc_24, ul_24, ue_24⟩ := u
      have hP : va_P D vwCl [(o, .inr (3, [.ref q1, .ref q2, .ref q3, .ref q4])), (q1, .inl (cI, 12, .inl hf)), (q2, .inl (cZ, 12, .inl bf)), (q4, .inr (2, [.ref q6, .int uc_24, .int ul_24, .int ue_24])), (q6, .inl (cI, 7, .inl ur_24))] H := hP
      have hD : va_D A [(o, .inr (3, [.ref q1, .ref q2, .ref q3, .ref q4])), (q1, .inl (cI, 12, .inl hf)), (q2, .inl (cZ, 12, .inl bf)), (q4, .inr (2, [.ref q6, .int uc_24, .int ul_24, .int ue_24])), (q6, .inl (cI, 7, .inl ur_24))] := hD
      have hw_24 : r_24 = 1 := hw_24
      subst hw_24
      refine lv_if_ne (tgt := 32) hx hb dX1_isTrue_27 (by decide) (fun c_27 => ?_) (fun c_27 => absurd c_27 (show ¬ ((1 : Int32) = 0) by  decide))
      refine lv_iinc (v := nI (k + 1)) (lv' := [(1, .int (nI (k + 1))), (0, .ref o)]) hx hb dX1_isTrue_32 hl (k := 1) rfl (n_incN k) (by decide) rfl (fun ls hl => ?_)
      refine lv_goto (tgt := 2) hx hb dX1_isTrue_35 (by decide) ?_
      exact ih (k + 1, ur_24, uc_24, ul_24, ue_24) (show (k + 1) ≤ 12 from by omega) (show 12 - (k + 1) < 12 - k by omega) _ _ _ (lv_sub hl [1, 0] rfl) (hP.sub (ws' := [(o, .inr (3, [.ref q1, .ref q2, .ref q3, .ref q4])), (q1, .inl (cI, 12, .inl hf)), (q2, .inl (cZ, 12, .inl bf)), (q4, .inr (2, [.ref q6, .int uc_24, .int ul_24, .int ue_24])), (q6, .inl (cI, 7, .inl ur_24))]) [0, 1, 2, 3, 4] rfl) (hD.sub (ws' := [(o, .inr (3, [.ref q1, .ref q2, .ref q3, .ref q4])), (q1, .inl (cI, 12, .inl hf)), (q2, .inl (cZ, 12, .inl bf)), (q4, .inr (2, [.ref q6, .int uc_24, .int ul_24, .int ue_24])), (q6, .inl (cI, 7, .inl ur_24))]) [0, 1, 2, 3, 4] (by decide) rfl) hS

/-! THE CLASS, by contract: promises 2 to 19 and 28 that need no Euclid. _noP: no such place; _no0: y is 0; _noA: a wrong argument. -/
theorem n_R_cu {x y : Int32} (gx : ny_R x) : ny_R (f_cu x y) := by
  have h1 := f_cu_i (y := y) (ny_R_lo gx)
  have h2 := ny_tmod_sg x.toInt y.toInt
  unfold ny_R at gx ⊢
  omega
theorem n_many (i : Int32) {h : Int32} (gh : ny_R h) : -9223372036854775808 < (i.toInt64 * h.toInt64).toInt ∧ (-1099511627776 ≤ (i.toInt64 * h.toInt64).toInt ∧ (i.toInt64 * h.toInt64).toInt ≤ 1099511627776) := by
  have h1 := fb_rng i
  unfold ny_R at gh
  have h2 := n_pr (a := i.toInt) (b := h.toInt) (A := 2147483648) (B := 127) (by omega) (by omega)
  have h3 : (i.toInt64 * h.toInt64).toInt = i.toInt * h.toInt := by
    rw [fb_mulL (by rw [Int32.toInt_toInt64, Int32.toInt_toInt64]; omega) (by rw [Int32.toInt_toInt64, Int32.toInt_toInt64]; omega), Int32.toInt_toInt64, Int32.toInt_toInt64]
  rw [h3]
  omega
/-- a residue's residue -/
theorem n_pwI {x n y : Int32} (gy : ny_R y) (g0 : ¬ y = 0) : f_rs (f_pw x n y).toInt64 y = f_pw x n y := by
  have h0 := ny_nz0 g0
  have h1 := ma_rs_size (v := x.toInt ^ n.toInt.toNat) h0
  unfold ny_R at gy
  have h2 : (f_pw x n y).toInt = ma_rs (x.toInt ^ n.toInt.toNat) y.toInt := fb_ofI (by omega) (by omega)
  unfold f_rs
  rw [Int32.toInt_toInt64, h2]
  exact congrArg Int32.ofInt (ma_rs_congr h0 (ma_rs_sub h0))
set_option maxHeartbeats 4000000 in
set_option maxRecDepth 100000 in
theorem c_X1_put (l : Launch) (D : va_G) (cI : ClassId) (cZ : ClassId) (o : Nat) (q1 : Nat) (q2 : Nat) (q3 : Nat) (q4 : Nat) (sz : Nat) (hf : Nat → Int32) (bf : Nat → Int32) (i0 : Int32) (i1 : Int32) (gp0 : vp_in i0 12) (ge : ny_R i1) (gH : ny_H hf) : Met l yX1_put wsX1_put ({ frames := 4, cells := 0, slots := 0, locals := 95 }) (va_Pc [.ref o, .int i0, .int i1] (ny_pre D [(cI, .int), (cZ, .boolean)] [(o, .inr (3, [.ref q1, .ref q2, .ref q3, .ref q4])), (q1, .inl (cI, 12, .inl hf)), (q2, .inl (cZ, 12, .inl bf))] sz)) (va_Ql (fun (r : Int64) (u : Unit) => r = f_bt (hf i0.toNatClampNeg) (bf i0.toNatClampNeg)) (fun (u : Unit) t => ny_at D [(cI, .int), (cZ, .boolean)] (va_A [(o, .inr (3, [.ref q1, .ref q2, .ref q3, .ref q4])), (q1, .inl (cI, 12, .inl hf)), (q2, .inl (cZ, 12, .inl bf))] sz) [(o, .inr (3, [.ref q1, .ref q2, .ref q3, .ref q4])), (q1, .inl (cI, 12, .inl (upd hf i0.toNatClampNeg i1))), (q2, .inl (cZ, 12, .inl (upd bf i0.toNatClampNeg 0)))] t) (va_A [(o, .inr (3, [.ref q1, .ref q2, .ref q3, .ref q4])), (q1, .inl (cI, 12, .inl hf)), (q2, .inl (cZ, 12, .inl bf))] sz)) 0 0 (va_A [(o, .inr (3, [.ref q1, .ref q2, .ref q3, .ref q4])), (q1, .inl (cI, 12, .inl hf)), (q2, .inl (cZ, 12, .inl bf))] sz) := by
  refine Met.ofW (cc := cX1_put) (maxL := 5) (ret := (some .long)) (by decide) rfl ?_
  intro p e s m args below meth c s₁ B hml hv
  obtain ⟨rfl, hsz, hP, hK, hD0, hE⟩ := hv
  have hx := B.exec
  have hb := B.bytes
  have hr := B.returns
  have hts := atoms_spec (ws := wsX1_put) B.pre
  have hown : s.vm.findClass RX1 = some m.cls := findClass_of_methodNamed B.named
  have hlocks := B.notSynchronized
  subst hsz
  have hD := hD0.self (sz := s.heap.size)
  generalize hAe : va_A [(o, .inr (3, [.ref q1, .ref q2, .ref q3, .ref q4])), (q1, .inl (cI, 12, .inl hf)), (q2, .inl (cZ, 12, .inl bf))] s.heap.size = A at hD hE ⊢
  have hA : ∀ q : Nat, s.heap.size ≤ q → A q := fun q h => by rw [← hAe]; exact Or.inr h
  have hS : va_S A s.heap s.heap [] := va_S.rf
  have hl := lv_entry ([.ref o, .int i0, .int i1]) (n := 5) (Nat.le_of_ble_eq_true rfl)
  rw [lg_entry_eq]
  generalize (lg_sl ([.ref o, .int i0, .int i1]) ++ List.replicate (5 - (lg_sl ([.ref o, .int i0, .int i1])).length) Slot.unset).toArray = ls at hl ⊢
  have hl : lv_has ls 5 [(0, .ref o), (1, .int i0), (2, .int i1)] := hl
  refine lv_iload_n hx hb dX1_put_0 rfl (lv_at hl 1 rfl) ?_
  refine va_csv (va_Run.run (va_runS (As := [.int i0]) (rest := []) ⟨hx, hb, hml, hown, hts⟩ (c_X1_needPlace l i0 (by assumption)) (va_cwS 1 hts gX1_put_X1_needPlace rfl rfl rfl (by decide +kernel) ⟨Nat.le_of_ble_eq_true rfl, Nat.le_of_ble_eq_true rfl⟩) ⟨ny_blindT, fun U hU hW => ⟨rfl, trivial⟩⟩ rfl rfl hl.1 rfl (lv_room (Nat.le_of_ble_eq_true rfl)) dX1_put_1 ⟨Nat.le_of_ble_eq_true rfl, Nat.le_of_ble_eq_true rfl⟩)) (fun hw => ?_)
  refine lv_iload_n hx hb dX1_put_4 rfl (lv_at hl 2 rfl) ?_
  refine lv_bipush (v := -127) hx hb dX1_put_5 (by decide) ?_
  refine lv_icmp_lt (tgt := 16) hx hb dX1_put_7 (by decide) (fun c_7 => absurd c_7 (show ¬ ((i1 : Int32) < (-127)) by  have z : (-127 : Int32).toInt = -127 := rfl; unfold ny_R at ge; rw [fa_lt]; omega)) (fun c_7 => ?_)
  refine lv_iload_n hx hb dX1_put_10 rfl (lv_at hl 2 rfl) ?_
  refine lv_bipush (v := 127) hx hb dX1_put_11 (by decide) ?_
  refine lv_icmp_le (tgt := 26) hx hb dX1_put_13 (by decide) (fun c_13 => ?_) (fun c_13 => absurd (show (i1 : Int32) ≤ 127 by  have z : (127 : Int32).toInt = 127 := rfl; unfold ny_R at ge; rw [fa_le]; omega) c_13)
  refine lv_aload_n hx hb dX1_put_26 rfl (lv_at hl 0 rfl) ?_
  refine lv_iload_n hx hb dX1_put_27 rfl (lv_at hl 1 rfl) ?_
  refine vp_callSl (va_Run.run (va_runV (As := [.int i0]) (rest := []) ⟨hx, hb, hml, hown, hts⟩ (c_X1_bitsAt l D cI cZ o q1 q2 q3 q4 s.heap.size hf bf i0 (by assumption) (gH _ (n_ix gp0))) (cwV 1 hts gX1_put_X1_bitsAt rfl rfl rfl (by decide +kernel) ⟨Nat.le_of_ble_eq_true rfl, Nat.le_of_ble_eq_true rfl⟩) ⟨ny_blind, va_recv hK hP (ci := 3) (q0 := 0) rfl rfl, fun U hU hW => ⟨rfl, ny_preU hE hP hK hD hS hA [0, 1, 2] rfl (by decide) rfl [0, 1] rfl U hU hW⟩⟩ rfl rfl hl.1 rfl (lv_room (Nat.le_of_ble_eq_true rfl)) dX1_put_28 ⟨Nat.le_of_ble_eq_true rfl, Nat.le_of_ble_eq_true rfl⟩)) (fun r_28 hw_28 => ?_)
  have hw_28 : r_28 = f_bt (hf i0.toNatClampNeg) (bf i0.toNatClampNeg) := hw_28
  subst hw_28
  refine lv_lstore_n (lv' := [(3, .long (f_bt (hf i0.toNatClampNeg) (bf i0.toNatClampNeg))), (0, .ref o), (1, .int i0), (2, .int i1)]) hx hb dX1_put_31 rfl hl (by decide) rfl (fun ls hl => ?_)
  refine lv_aload_n hx hb dX1_put_32 rfl (lv_at hl 1 rfl) ?_
  refine lv_iload_n hx hb dX1_put_33 rfl (lv_at hl 2 rfl) ?_
  refine lv_iload_n hx hb dX1_put_34 rfl (lv_at hl 3 rfl) ?_
  refine lv_iconst (v := 0) hx hb dX1_put_35 (by decide) ?_
  refine ny_l (wc := [(o, .inr (3, [.ref q1, .ref q2, .ref q3, .ref q4])), (q1, .inl (cI, 12, .inl hf)), (q2, .inl (cZ, 12, .inl bf))]) (wr := []) hP hD hS hA [0, 1, 2] [] rfl rfl (by decide) (by decide) (va_runV (As := [.int i0, .int i1, .int 0]) (rest := []) ⟨hx, hb, hml, hown, hts⟩ (c_X1_keep l D cI cZ o q1 q2 q3 q4 s.heap.size hf bf i0 i1 0 (by assumption) (by assumption) (Or.inl rfl)) (cwV 3 hts gX1_put_X1_keep rfl rfl rfl (by decide +kernel) ⟨Nat.le_of_ble_eq_true rfl, Nat.le_of_ble_eq_true rfl⟩) ⟨ny_blind, va_recv hK hP (ci := 3) (q0 := 0) rfl rfl, fun U hU hW => ⟨rfl, ny_preU hE hP hK hD hS hA [0, 1, 2] rfl (by decide) rfl [0, 1] rfl U hU hW⟩⟩ rfl rfl hl.1 rfl (lv_room (Nat.le_of_ble_eq_true rfl)) dX1_put_36 ⟨Nat.le_of_ble_eq_true rfl, Nat.le_of_ble_eq_true rfl⟩) (fun r_36 u H locs hw_36 hP hD hS => ?_)
  have hP : va_P D vwCl [(o, .inr (3, [.ref q1, .ref q2, .ref q3, .ref q4])), (q1, .inl (cI, 12, .inl (upd hf i0.toNatClampNeg i1))), (q2, .inl (cZ, 12, .inl (upd bf i0.toNatClampNeg 0)))] H := hP
  have hD : va_D A [(o, .inr (3, [.ref q1, .ref q2, .ref q3, .ref q4])), (q1, .inl (cI, 12, .inl (upd hf i0.toNatClampNeg i1))), (q2, .inl (cZ, 12, .inl (upd bf i0.toNatClampNeg 0)))] := hD
  have hw_36 : r_36 = f_bt i1 0 := hw_36
  subst hw_36
  refine lv_pop2_2 hx hb dX1_put_39 rfl ?_
  refine lv_lload_n hx hb dX1_put_40 rfl (lv_at hl 0 rfl) ?_
  have hP9 := hP.sub (ws' := [(o, .inr (3, [.ref q1, .ref q2, .ref q3, .ref q4])), (q1, .inl (cI, 12, .inl (upd hf i0.toNatClampNeg i1))), (q2, .inl (cZ, 12, .inl (upd bf i0.toNatClampNeg 0)))]) [0, 1, 2] rfl
  have hD9 := hD.sub (ws' := [(o, .inr (3, [.ref q1, .ref q2, .ref q3, .ref q4])), (q1, .inl (cI, 12, .inl (upd hf i0.toNatClampNeg i1))), (q2, .inl (cZ, 12, .inl (upd bf i0.toNatClampNeg 0)))]) [0, 1, 2] (by decide) rfl
  exact W.lret (v := f_bt (hf i0.toNatClampNeg) (bf i0.toNatClampNeg)) hx hb hr (fun t ht hW => ⟨⟨f_bt (hf i0.toNatClampNeg) (bf i0.toNatClampNeg), (), rfl, (rfl), by rw [ht]; exact hP9, va_K.moved hW.alike hK, hD9⟩, hS.F ht⟩) hS.2.2 dX1_put_41
set_option maxHeartbeats 4000000 in
set_option maxRecDepth 100000 in
theorem c_X1_put_noP (l : Launch) (D : va_G) (cI : ClassId) (cZ : ClassId) (o : Nat) (q1 : Nat) (q2 : Nat) (q3 : Nat) (q4 : Nat) (sz : Nat) (hf : Nat → Int32) (bf : Nat → Int32) (i0 : Int32) (i1 : Int32) (gl : l.stackTraces = false) (gb : ¬ vp_in i0 12) : vx_Met l yX1_put wsX1_put ({ frames := 7, cells := 1, slots := 6, locals := 110 }) (va_Pc [.ref o, .int i0, .int i1] (ny_pre D [(cI, .int), (cZ, .boolean)] [(o, .inr (3, [.ref q1, .ref q2, .ref q3, .ref q4])), (q1, .inl (cI, 12, .inl hf)), (q2, .inl (cZ, 12, .inl bf))] sz)) (fun _ _ _ _ => False) (vx_X (fun _ : Unit => True) (fun E' _ _ => E' = ny_IO) (fun _ => False)) 1 6 (va_A [(o, .inr (3, [.ref q1, .ref q2, .ref q3, .ref q4])), (q1, .inl (cI, 12, .inl hf)), (q2, .inl (cZ, 12, .inl bf))] sz) := by
  refine vx_ofW (cc := cX1_put) (maxL := 5) (ret := (some .long)) (by decide) rfl ?_
  intro p e s m args below meth c s₁ B hml ht hv
  obtain ⟨rfl, hsz, hP, hK, hD0, hE⟩ := hv
  have hx := B.exec
  have hb := B.bytes
  have hr := B.returns
  have hts := atoms_spec (ws := wsX1_put) B.pre
  have hown : s.vm.findClass RX1 = some m.cls := findClass_of_methodNamed B.named
  have hlocks := B.notSynchronized
  subst hsz
  have hD := hD0.self (sz := s.heap.size)
  generalize hAe : va_A [(o, .inr (3, [.ref q1, .ref q2, .ref q3, .ref q4])), (q1, .inl (cI, 12, .inl hf)), (q2, .inl (cZ, 12, .inl bf))] s.heap.size = A at hD hE ⊢
  have hA : ∀ q : Nat, s.heap.size ≤ q → A q := fun q h => by rw [← hAe]; exact Or.inr h
  have hS : va_S A s.heap s.heap [] := va_S.rf
  have hl := lv_entry ([.ref o, .int i0, .int i1]) (n := 5) (Nat.le_of_ble_eq_true rfl)
  rw [lg_entry_eq]
  generalize (lg_sl ([.ref o, .int i0, .int i1]) ++ List.replicate (5 - (lg_sl ([.ref o, .int i0, .int i1])).length) Slot.unset).toArray = ls at hl ⊢
  have hl : lv_has ls 5 [(0, .ref o), (1, .int i0), (2, .int i1)] := hl
  refine lv_iload_n hx hb dX1_put_0 rfl (lv_at hl 1 rfl) ?_
  exact ny_th hS (va_free (wc := []) hD hS hA [] rfl) ht hlocks (Nat.le_of_ble_eq_true rfl) (Nat.le_of_ble_eq_true rfl) (vx_runS (As := [.int i0]) (rest := []) ⟨hx, hb, hml, hown, hts⟩ (c_X1_needPlace_no l D s.heap.size i0 (by assumption) (by assumption)) (va_cwS 1 hts gX1_put_X1_needPlace rfl rfl rfl (by decide +kernel) ⟨Nat.le_of_ble_eq_true rfl, Nat.le_of_ble_eq_true rfl⟩) ⟨ny_blind, fun U hU hW => ⟨rfl, ny_preU hE hP hK hD hS hA [] rfl (by decide) rfl [] rfl U hU hW⟩⟩ rfl rfl hl.1 rfl (lv_room (Nat.le_of_ble_eq_true rfl)) dX1_put_1 ⟨Nat.le_of_ble_eq_true rfl, Nat.le_of_ble_eq_true rfl⟩)
set_option maxHeartbeats 4000000 in
set_option maxRecDepth 100000 in
theorem c_X1_put_noA (l : Launch) (D : va_G) (cI : ClassId) (cZ : ClassId) (o : Nat) (q1 : Nat) (q2 : Nat) (q3 : Nat) (q4 : Nat) (sz : Nat) (hf : Nat → Int32) (bf : Nat → Int32) (i0 : Int32) (i1 : Int32) (gl : l.stackTraces = false) (gp0 : vp_in i0 12) (ge : ¬ ny_R i1) : vx_Met l yX1_put wsX1_put ({ frames := 6, cells := 1, slots := 6, locals := 90 }) (va_Pc [.ref o, .int i0, .int i1] (ny_pre D [(cI, .int), (cZ, .boolean)] [(o, .inr (3, [.ref q1, .ref q2, .ref q3, .ref q4])), (q1, .inl (cI, 12, .inl hf)), (q2, .inl (cZ, 12, .inl bf))] sz)) (fun _ _ _ _ => False) (vx_X (fun _ : Unit => True) (fun E' _ _ => E' = ny_IA) (fun _ => False)) 1 6 (va_A [(o, .inr (3, [.ref q1, .ref q2, .ref q3, .ref q4])), (q1, .inl (cI, 12, .inl hf)), (q2, .inl (cZ, 12, .inl bf))] sz) := by
  refine vx_ofW (cc := cX1_put) (maxL := 5) (ret := (some .long)) (by decide) rfl ?_
  intro p e s m args below meth c s₁ B hml ht hv
  obtain ⟨rfl, hsz, hP, hK, hD0, hE⟩ := hv
  have hx := B.exec
  have hb := B.bytes
  have hr := B.returns
  have hts := atoms_spec (ws := wsX1_put) B.pre
  have hown : s.vm.findClass RX1 = some m.cls := findClass_of_methodNamed B.named
  have hlocks := B.notSynchronized
  subst hsz
  have hD := hD0.self (sz := s.heap.size)
  generalize hAe : va_A [(o, .inr (3, [.ref q1, .ref q2, .ref q3, .ref q4])), (q1, .inl (cI, 12, .inl hf)), (q2, .inl (cZ, 12, .inl bf))] s.heap.size = A at hD hE ⊢
  have hA : ∀ q : Nat, s.heap.size ≤ q → A q := fun q h => by rw [← hAe]; exact Or.inr h
  have hS : va_S A s.heap s.heap [] := va_S.rf
  have hl := lv_entry ([.ref o, .int i0, .int i1]) (n := 5) (Nat.le_of_ble_eq_true rfl)
  rw [lg_entry_eq]
  generalize (lg_sl ([.ref o, .int i0, .int i1]) ++ List.replicate (5 - (lg_sl ([.ref o, .int i0, .int i1])).length) Slot.unset).toArray = ls at hl ⊢
  have hl : lv_has ls 5 [(0, .ref o), (1, .int i0), (2, .int i1)] := hl
  refine lv_iload_n hx hb dX1_put_0 rfl (lv_at hl 1 rfl) ?_
  refine va_csv (va_Run.run (va_runS (As := [.int i0]) (rest := []) ⟨hx, hb, hml, hown, hts⟩ (c_X1_needPlace l i0 (by assumption)) (va_cwS 1 hts gX1_put_X1_needPlace rfl rfl rfl (by decide +kernel) ⟨Nat.le_of_ble_eq_true rfl, Nat.le_of_ble_eq_true rfl⟩) ⟨ny_blindT, fun U hU hW => ⟨rfl, trivial⟩⟩ rfl rfl hl.1 rfl (lv_room (Nat.le_of_ble_eq_true rfl)) dX1_put_1 ⟨Nat.le_of_ble_eq_true rfl, Nat.le_of_ble_eq_true rfl⟩)) (fun hw => ?_)
  refine lv_iload_n hx hb dX1_put_4 rfl (lv_at hl 2 rfl) ?_
  refine lv_bipush (v := -127) hx hb dX1_put_5 (by decide) ?_
  refine lv_icmp_lt (tgt := 16) hx hb dX1_put_7 (by decide) (fun c_7 => ?_) (fun c_7 => ?_)
  · exact ny_throw (cls := ny_IA) hx hb gl hown (by decide) (hts (.classLink RX1 31 "java/lang/IllegalArgumentException") (List.mem_of_getElem? (i := 1) rfl)) (hts (.initialized "java/lang/IllegalArgumentException") (List.mem_of_getElem? (i := 2) rfl)) hE (List.mem_of_getElem? (i := 1) rfl) (List.mem_of_getElem? (i := 1) rfl) (fun w h => hts w ((fun _ h => List.mem_cons_of_mem _ (List.mem_append_left _ (List.mem_append_left _ (List.mem_append_right _ h)))) w h)) ny_b35 ny_h35 hS (hl.1.trans hml.symm) dX1_put_16 dX1_put_19 dX1_put_20 dX1_put_22 dX1_put_25 ht (Nat.le_of_ble_eq_true rfl) (Nat.le_of_ble_eq_true rfl) (Nat.le_of_ble_eq_true rfl) (Nat.le_of_ble_eq_true rfl) hlocks (Nat.le_of_ble_eq_true rfl) (Nat.le_of_ble_eq_true rfl)
  · refine lv_iload_n hx hb dX1_put_10 rfl (lv_at hl 2 rfl) ?_
    refine lv_bipush (v := 127) hx hb dX1_put_11 (by decide) ?_
    refine lv_icmp_le (tgt := 26) hx hb dX1_put_13 (by decide) (fun c_13 => absurd c_13 (show ¬ ((i1 : Int32) ≤ 127) by  have z : (-127 : Int32).toInt = -127 := rfl; have z2 : (127 : Int32).toInt = 127 := rfl; intro q; rw [fa_le] at q; rw [fa_lt] at c_7; exact ge ⟨by omega, by omega⟩)) (fun c_13 => ?_)
    exact ny_throw (cls := ny_IA) hx hb gl hown (by decide) (hts (.classLink RX1 31 "java/lang/IllegalArgumentException") (List.mem_of_getElem? (i := 1) rfl)) (hts (.initialized "java/lang/IllegalArgumentException") (List.mem_of_getElem? (i := 2) rfl)) hE (List.mem_of_getElem? (i := 1) rfl) (List.mem_of_getElem? (i := 1) rfl) (fun w h => hts w ((fun _ h => List.mem_cons_of_mem _ (List.mem_append_left _ (List.mem_append_left _ (List.mem_append_right _ h)))) w h)) ny_b35 ny_h35 hS (hl.1.trans hml.symm) dX1_put_16 dX1_put_19 dX1_put_20 dX1_put_22 dX1_put_25 ht (Nat.le_of_ble_eq_true rfl) (Nat.le_of_ble_eq_true rfl) (Nat.le_of_ble_eq_true rfl) (Nat.le_of_ble_eq_true rfl) hlocks (Nat.le_of_ble_eq_true rfl) (Nat.le_of_ble_eq_true rfl)
set_option maxHeartbeats 4000000 in
set_option maxRecDepth 100000 in
theorem c_X1_putBelow (l : Launch) (D : va_G) (cI : ClassId) (cZ : ClassId) (o : Nat) (q1 : Nat) (q2 : Nat) (q3 : Nat) (q4 : Nat) (sz : Nat) (hf : Nat → Int32) (bf : Nat → Int32) (i0 : Int32) (gp0 : vp_in i0 12) (gH : ny_H hf) : Met l yX1_putBelow wsX1_putBelow ({ frames := 4, cells := 0, slots := 0, locals := 95 }) (va_Pc [.ref o, .int i0] (ny_pre D [(cI, .int), (cZ, .boolean)] [(o, .inr (3, [.ref q1, .ref q2, .ref q3, .ref q4])), (q1, .inl (cI, 12, .inl hf)), (q2, .inl (cZ, 12, .inl bf))] sz)) (va_Ql (fun (r : Int64) (u : Unit) => r = f_bt (hf i0.toNatClampNeg) (bf i0.toNatClampNeg)) (fun (u : Unit) t => ny_at D [(cI, .int), (cZ, .boolean)] (va_A [(o, .inr (3, [.ref q1, .ref q2, .ref q3, .ref q4])), (q1, .inl (cI, 12, .inl hf)), (q2, .inl (cZ, 12, .inl bf))] sz) [(o, .inr (3, [.ref q1, .ref q2, .ref q3, .ref q4])), (q1, .inl (cI, 12, .inl (upd hf i0.toNatClampNeg 0))), (q2, .inl (cZ, 12, .inl (upd bf i0.toNatClampNeg 1)))] t) (va_A [(o, .inr (3, [.ref q1, .ref q2, .ref q3, .ref q4])), (q1, .inl (cI, 12, .inl hf)), (q2, .inl (cZ, 12, .inl bf))] sz)) 0 0 (va_A [(o, .inr (3, [.ref q1, .ref q2, .ref q3, .ref q4])), (q1, .inl (cI, 12, .inl hf)), (q2, .inl (cZ, 12, .inl bf))] sz) := by
  refine Met.ofW (cc := cX1_putBelow) (maxL := 4) (ret := (some .long)) (by decide) rfl ?_
  intro p e s m args below meth c s₁ B hml hv
  obtain ⟨rfl, hsz, hP, hK, hD0, hE⟩ := hv
  have hx := B.exec
  have hb := B.bytes
  have hr := B.returns
  have hts := atoms_spec (ws := wsX1_putBelow) B.pre
  have hown : s.vm.findClass RX1 = some m.cls := findClass_of_methodNamed B.named
  have hlocks := B.notSynchronized
  subst hsz
  have hD := hD0.self (sz := s.heap.size)
  generalize hAe : va_A [(o, .inr (3, [.ref q1, .ref q2, .ref q3, .ref q4])), (q1, .inl (cI, 12, .inl hf)), (q2, .inl (cZ, 12, .inl bf))] s.heap.size = A at hD hE ⊢
  have hA : ∀ q : Nat, s.heap.size ≤ q → A q := fun q h => by rw [← hAe]; exact Or.inr h
  have hS : va_S A s.heap s.heap [] := va_S.rf
  have hl := lv_entry ([.ref o, .int i0]) (n := 4) (Nat.le_of_ble_eq_true rfl)
  rw [lg_entry_eq]
  generalize (lg_sl ([.ref o, .int i0]) ++ List.replicate (4 - (lg_sl ([.ref o, .int i0])).length) Slot.unset).toArray = ls at hl ⊢
  have hl : lv_has ls 4 [(0, .ref o), (1, .int i0)] := hl
  refine lv_iload_n hx hb dX1_putBelow_0 rfl (lv_at hl 1 rfl) ?_
  refine va_csv (va_Run.run (va_runS (As := [.int i0]) (rest := []) ⟨hx, hb, hml, hown, hts⟩ (c_X1_needPlace l i0 (by assumption)) (va_cwS 1 hts gX1_putBelow_X1_needPlace rfl rfl rfl (by decide +kernel) ⟨Nat.le_of_ble_eq_true rfl, Nat.le_of_ble_eq_true rfl⟩) ⟨ny_blindT, fun U hU hW => ⟨rfl, trivial⟩⟩ rfl rfl hl.1 rfl (lv_room (Nat.le_of_ble_eq_true rfl)) dX1_putBelow_1 ⟨Nat.le_of_ble_eq_true rfl, Nat.le_of_ble_eq_true rfl⟩)) (fun hw => ?_)
  refine lv_aload_n hx hb dX1_putBelow_4 rfl (lv_at hl 0 rfl) ?_
  refine lv_iload_n hx hb dX1_putBelow_5 rfl (lv_at hl 1 rfl) ?_
  refine vp_callSl (va_Run.run (va_runV (As := [.int i0]) (rest := []) ⟨hx, hb, hml, hown, hts⟩ (c_X1_bitsAt l D cI cZ o q1 q2 q3 q4 s.heap.size hf bf i0 (by assumption) (gH _ (n_ix gp0))) (cwV 1 hts gX1_putBelow_X1_bitsAt rfl rfl rfl (by decide +kernel) ⟨Nat.le_of_ble_eq_true rfl, Nat.le_of_ble_eq_true rfl⟩) ⟨ny_blind, va_recv hK hP (ci := 3) (q0 := 0) rfl rfl, fun U hU hW => ⟨rfl, ny_preU hE hP hK hD hS hA [0, 1, 2] rfl (by decide) rfl [0, 1] rfl U hU hW⟩⟩ rfl rfl hl.1 rfl (lv_room (Nat.le_of_ble_eq_true rfl)) dX1_putBelow_6 ⟨Nat.le_of_ble_eq_true rfl, Nat.le_of_ble_eq_true rfl⟩)) (fun r_6 hw_6 => ?_)
  have hw_6 : r_6 = f_bt (hf i0.toNatClampNeg) (bf i0.toNatClampNeg) := hw_6
  subst hw_6
  refine lv_lstore_n (lv' := [(2, .long (f_bt (hf i0.toNatClampNeg) (bf i0.toNatClampNeg))), (0, .ref o), (1, .int i0)]) hx hb dX1_putBelow_9 rfl hl (by decide) rfl (fun ls hl => ?_)
  refine lv_aload_n hx hb dX1_putBelow_10 rfl (lv_at hl 1 rfl) ?_
  refine lv_iload_n hx hb dX1_putBelow_11 rfl (lv_at hl 2 rfl) ?_
  refine lv_iconst (v := 0) hx hb dX1_putBelow_12 (by decide) ?_
  refine lv_iconst (v := 1) hx hb dX1_putBelow_13 (by decide) ?_
  refine ny_l (wc := [(o, .inr (3, [.ref q1, .ref q2, .ref q3, .ref q4])), (q1, .inl (cI, 12, .inl hf)), (q2, .inl (cZ, 12, .inl bf))]) (wr := []) hP hD hS hA [0, 1, 2] [] rfl rfl (by decide) (by decide) (va_runV (As := [.int i0, .int 0, .int 1]) (rest := []) ⟨hx, hb, hml, hown, hts⟩ (c_X1_keep l D cI cZ o q1 q2 q3 q4 s.heap.size hf bf i0 0 1 (by assumption) ny_R_0 (Or.inr rfl)) (cwV 3 hts gX1_putBelow_X1_keep rfl rfl rfl (by decide +kernel) ⟨Nat.le_of_ble_eq_true rfl, Nat.le_of_ble_eq_true rfl⟩) ⟨ny_blind, va_recv hK hP (ci := 3) (q0 := 0) rfl rfl, fun U hU hW => ⟨rfl, ny_preU hE hP hK hD hS hA [0, 1, 2] rfl (by decide) rfl [0, 1] rfl U hU hW⟩⟩ rfl rfl hl.1 rfl (lv_room (Nat.le_of_ble_eq_true rfl)) dX1_putBelow_14 ⟨Nat.le_of_ble_eq_true rfl, Nat.le_of_ble_eq_true rfl⟩) (fun r_14 u H locs hw_14 hP hD hS => ?_)
  have hP : va_P D vwCl [(o, .inr (3, [.ref q1, .ref q2, .ref q3, .ref q4])), (q1, .inl (cI, 12, .inl (upd hf i0.toNatClampNeg 0))), (q2, .inl (cZ, 12, .inl (upd bf i0.toNatClampNeg 1)))] H := hP
  have hD : va_D A [(o, .inr (3, [.ref q1, .ref q2, .ref q3, .ref q4])), (q1, .inl (cI, 12, .inl (upd hf i0.toNatClampNeg 0))), (q2, .inl (cZ, 12, .inl (upd bf i0.toNatClampNeg 1)))] := hD
  have hw_14 : r_14 = f_bt 0 1 := hw_14
  subst hw_14
  refine lv_pop2_2 hx hb dX1_putBelow_17 rfl ?_
  refine lv_lload_n hx hb dX1_putBelow_18 rfl (lv_at hl 0 rfl) ?_
  have hP9 := hP.sub (ws' := [(o, .inr (3, [.ref q1, .ref q2, .ref q3, .ref q4])), (q1, .inl (cI, 12, .inl (upd hf i0.toNatClampNeg 0))), (q2, .inl (cZ, 12, .inl (upd bf i0.toNatClampNeg 1)))]) [0, 1, 2] rfl
  have hD9 := hD.sub (ws' := [(o, .inr (3, [.ref q1, .ref q2, .ref q3, .ref q4])), (q1, .inl (cI, 12, .inl (upd hf i0.toNatClampNeg 0))), (q2, .inl (cZ, 12, .inl (upd bf i0.toNatClampNeg 1)))]) [0, 1, 2] (by decide) rfl
  exact W.lret (v := f_bt (hf i0.toNatClampNeg) (bf i0.toNatClampNeg)) hx hb hr (fun t ht hW => ⟨⟨f_bt (hf i0.toNatClampNeg) (bf i0.toNatClampNeg), (), rfl, (rfl), by rw [ht]; exact hP9, va_K.moved hW.alike hK, hD9⟩, hS.F ht⟩) hS.2.2 dX1_putBelow_19
set_option maxHeartbeats 4000000 in
set_option maxRecDepth 100000 in
theorem c_X1_putBelow_noP (l : Launch) (D : va_G) (cI : ClassId) (cZ : ClassId) (o : Nat) (q1 : Nat) (q2 : Nat) (q3 : Nat) (q4 : Nat) (sz : Nat) (hf : Nat → Int32) (bf : Nat → Int32) (i0 : Int32) (gl : l.stackTraces = false) (gb : ¬ vp_in i0 12) : vx_Met l yX1_putBelow wsX1_putBelow ({ frames := 7, cells := 1, slots := 6, locals := 110 }) (va_Pc [.ref o, .int i0] (ny_pre D [(cI, .int), (cZ, .boolean)] [(o, .inr (3, [.ref q1, .ref q2, .ref q3, .ref q4])), (q1, .inl (cI, 12, .inl hf)), (q2, .inl (cZ, 12, .inl bf))] sz)) (fun _ _ _ _ => False) (vx_X (fun _ : Unit => True) (fun E' _ _ => E' = ny_IO) (fun _ => False)) 1 6 (va_A [(o, .inr (3, [.ref q1, .ref q2, .ref q3, .ref q4])), (q1, .inl (cI, 12, .inl hf)), (q2, .inl (cZ, 12, .inl bf))] sz) := by
  refine vx_ofW (cc := cX1_putBelow) (maxL := 4) (ret := (some .long)) (by decide) rfl ?_
  intro p e s m args below meth c s₁ B hml ht hv
  obtain ⟨rfl, hsz, hP, hK, hD0, hE⟩ := hv
  have hx := B.exec
  have hb := B.bytes
  have hr := B.returns
  have hts := atoms_spec (ws := wsX1_putBelow) B.pre
  have hown : s.vm.findClass RX1 = some m.cls := findClass_of_methodNamed B.named
  have hlocks := B.notSynchronized
  subst hsz
  have hD := hD0.self (sz := s.heap.size)
  generalize hAe : va_A [(o, .inr (3, [.ref q1, .ref q2, .ref q3, .ref q4])), (q1, .inl (cI, 12, .inl hf)), (q2, .inl (cZ, 12, .inl bf))] s.heap.size = A at hD hE ⊢
  have hA : ∀ q : Nat, s.heap.size ≤ q → A q := fun q h => by rw [← hAe]; exact Or.inr h
  have hS : va_S A s.heap s.heap [] := va_S.rf
  have hl := lv_entry ([.ref o, .int i0]) (n := 4) (Nat.le_of_ble_eq_true rfl)
  rw [lg_entry_eq]
  generalize (lg_sl ([.ref o, .int i0]) ++ List.replicate (4 - (lg_sl ([.ref o, .int i0])).length) Slot.unset).toArray = ls at hl ⊢
  have hl : lv_has ls 4 [(0, .ref o), (1, .int i0)] := hl
  refine lv_iload_n hx hb dX1_putBelow_0 rfl (lv_at hl 1 rfl) ?_
  exact ny_th hS (va_free (wc := []) hD hS hA [] rfl) ht hlocks (Nat.le_of_ble_eq_true rfl) (Nat.le_of_ble_eq_true rfl) (vx_runS (As := [.int i0]) (rest := []) ⟨hx, hb, hml, hown, hts⟩ (c_X1_needPlace_no l D s.heap.size i0 (by assumption) (by assumption)) (va_cwS 1 hts gX1_putBelow_X1_needPlace rfl rfl rfl (by decide +kernel) ⟨Nat.le_of_ble_eq_true rfl, Nat.le_of_ble_eq_true rfl⟩) ⟨ny_blind, fun U hU hW => ⟨rfl, ny_preU hE hP hK hD hS hA [] rfl (by decide) rfl [] rfl U hU hW⟩⟩ rfl rfl hl.1 rfl (lv_room (Nat.le_of_ble_eq_true rfl)) dX1_putBelow_1 ⟨Nat.le_of_ble_eq_true rfl, Nat.le_of_ble_eq_true rfl⟩)
theorem in_X1_turn_X1 : ∀ w ∈ wsX10, w ∈ wsX1_turn := (fun _ h => List.mem_cons_of_mem _ (List.mem_append_left _ (List.mem_append_left _ (List.mem_append_right _ h))))
set_option maxHeartbeats 4000000 in
set_option maxRecDepth 100000 in
theorem c_X1_turn (l : Launch) (D : va_G) (cI : ClassId) (cZ : ClassId) (o : Nat) (q1 : Nat) (q2 : Nat) (q3 : Nat) (q4 : Nat) (sz : Nat) (hf : Nat → Int32) (bf : Nat → Int32) (i0 : Int32) (gp0 : vp_in i0 12) (gH : ny_H hf) (gB : ny_BB bf) : Met l yX1_turn wsX1_turn ({ frames := 4, cells := 0, slots := 0, locals := 95 }) (va_Pc [.ref o, .int i0] (ny_pre D [(cI, .int), (cZ, .boolean)] [(o, .inr (3, [.ref q1, .ref q2, .ref q3, .ref q4])), (q1, .inl (cI, 12, .inl hf)), (q2, .inl (cZ, 12, .inl bf))] sz)) (va_Ql (fun (r : Int64) (u : Unit) => r = f_bt (-hf i0.toNatClampNeg) (1 - bf i0.toNatClampNeg)) (fun (u : Unit) t => ny_at D [(cI, .int), (cZ, .boolean)] (va_A [(o, .inr (3, [.ref q1, .ref q2, .ref q3, .ref q4])), (q1, .inl (cI, 12, .inl hf)), (q2, .inl (cZ, 12, .inl bf))] sz) [(o, .inr (3, [.ref q1, .ref q2, .ref q3, .ref q4])), (q1, .inl (cI, 12, .inl (upd hf i0.toNatClampNeg (-hf i0.toNatClampNeg)))), (q2, .inl (cZ, 12, .inl (upd bf i0.toNatClampNeg (f_z (-hf i0.toNatClampNeg) (1 - bf i0.toNatClampNeg)))))] t) (va_A [(o, .inr (3, [.ref q1, .ref q2, .ref q3, .ref q4])), (q1, .inl (cI, 12, .inl hf)), (q2, .inl (cZ, 12, .inl bf))] sz)) 0 0 (va_A [(o, .inr (3, [.ref q1, .ref q2, .ref q3, .ref q4])), (q1, .inl (cI, 12, .inl hf)), (q2, .inl (cZ, 12, .inl bf))] sz) := by
  refine Met.ofW (cc := cX1_turn) (maxL := 2) (ret := (some .long)) (by decide) rfl ?_
  intro p e s m args below meth c s₁ B hml hv
  obtain ⟨rfl, hsz, hP, hK, hD0, hE⟩ := hv
  have hx := B.exec
  have hb := B.bytes
  have hr := B.returns
  have hts := atoms_spec (ws := wsX1_turn) B.pre
  have hown : s.vm.findClass RX1 = some m.cls := findClass_of_methodNamed B.named
  have hlocks := B.notSynchronized
  subst hsz
  have hD := hD0.self (sz := s.heap.size)
  generalize hAe : va_A [(o, .inr (3, [.ref q1, .ref q2, .ref q3, .ref q4])), (q1, .inl (cI, 12, .inl hf)), (q2, .inl (cZ, 12, .inl bf))] s.heap.size = A at hD hE ⊢
  have hA : ∀ q : Nat, s.heap.size ≤ q → A q := fun q h => by rw [← hAe]; exact Or.inr h
  have hS : va_S A s.heap s.heap [] := va_S.rf
  have hl := lv_entry ([.ref o, .int i0]) (n := 2) (Nat.le_of_ble_eq_true rfl)
  rw [lg_entry_eq]
  generalize (lg_sl ([.ref o, .int i0]) ++ List.replicate (2 - (lg_sl ([.ref o, .int i0])).length) Slot.unset).toArray = ls at hl ⊢
  have hl : lv_has ls 2 [(0, .ref o), (1, .int i0)] := hl
  refine lv_iload_n hx hb dX1_turn_0 rfl (lv_at hl 1 rfl) ?_
  refine va_csv (va_Run.run (va_runS (As := [.int i0]) (rest := []) ⟨hx, hb, hml, hown, hts⟩ (c_X1_needPlace l i0 (by assumption)) (va_cwS 1 hts gX1_turn_X1_needPlace rfl rfl rfl (by decide +kernel) ⟨Nat.le_of_ble_eq_true rfl, Nat.le_of_ble_eq_true rfl⟩) ⟨ny_blindT, fun U hU hW => ⟨rfl, trivial⟩⟩ rfl rfl hl.1 rfl (lv_room (Nat.le_of_ble_eq_true rfl)) dX1_turn_1 ⟨Nat.le_of_ble_eq_true rfl, Nat.le_of_ble_eq_true rfl⟩)) (fun hw => ?_)
  refine lv_aload_n hx hb dX1_turn_4 rfl (lv_at hl 0 rfl) ?_
  refine lv_iload_n hx hb dX1_turn_5 rfl (lv_at hl 1 rfl) ?_
  refine lv_aload_n hx hb dX1_turn_6 rfl (lv_at hl 0 rfl) ?_
  refine va_get (D := D) (ci := 3) (v := .ref q1) (C := RX1) (T := TX1) (N := 4) hx hb hts in_X1_turn_X1 hown hK hP 0 rfl rfl 0 (by decide) (hts (.fieldLink RX1 9 "Nearestclock" "held" "[I") (List.mem_of_getElem? (i := 1) rfl)) (fun _ h9 => h9) rfl dX1_turn_7 ?_
  refine lv_iload_n hx hb dX1_turn_10 rfl (lv_at hl 1 rfl) ?_
  refine va_iald hx hb hK hP 1 0 rfl rfl (by assumption) dX1_turn_11 ?_
  refine lv_ineg hx hb dX1_turn_12 ?_
  refine lv_aload_n hx hb dX1_turn_13 rfl (lv_at hl 0 rfl) ?_
  refine va_get (D := D) (ci := 3) (v := .ref q1) (C := RX1) (T := TX1) (N := 4) hx hb hts in_X1_turn_X1 hown hK hP 0 rfl rfl 0 (by decide) (hts (.fieldLink RX1 9 "Nearestclock" "held" "[I") (List.mem_of_getElem? (i := 1) rfl)) (fun _ h9 => h9) rfl dX1_turn_14 ?_
  refine lv_iload_n hx hb dX1_turn_17 rfl (lv_at hl 1 rfl) ?_
  refine va_iald hx hb hK hP 1 0 rfl rfl (by assumption) dX1_turn_18 ?_
  refine lv_if_ne (tgt := 35) hx hb dX1_turn_19 (by decide) (fun c_19 => ?_) (fun c_19 => ?_)
  · refine lv_iconst (v := 0) hx hb dX1_turn_35 (by decide) ?_
    refine ny_ti (x2 := f_z (-hf i0.toNatClampNeg) (1 - bf i0.toNatClampNeg)) (n_tz3 c_19) ?_
    refine ny_l (wc := [(o, .inr (3, [.ref q1, .ref q2, .ref q3, .ref q4])), (q1, .inl (cI, 12, .inl hf)), (q2, .inl (cZ, 12, .inl bf))]) (wr := []) hP hD hS hA [0, 1, 2] [] rfl rfl (by decide) (by decide) (va_runV (As := [.int i0, .int (-(hf i0.toNatClampNeg)), .int (f_z (-hf i0.toNatClampNeg) (1 - bf i0.toNatClampNeg))]) (rest := []) ⟨hx, hb, hml, hown, hts⟩ (c_X1_keep l D cI cZ o q1 q2 q3 q4 s.heap.size hf bf i0 (-(hf i0.toNatClampNeg)) (f_z (-hf i0.toNatClampNeg) (1 - bf i0.toNatClampNeg)) (by assumption) (ny_R_ng (gH _ (n_ix gp0))) (f_z_B (n_1b (gB _ (n_ix gp0))))) (cwV 3 hts gX1_turn_X1_keep rfl rfl rfl (by decide +kernel) ⟨Nat.le_of_ble_eq_true rfl, Nat.le_of_ble_eq_true rfl⟩) ⟨ny_blind, va_recv hK hP (ci := 3) (q0 := 0) rfl rfl, fun U hU hW => ⟨rfl, ny_preU hE hP hK hD hS hA [0, 1, 2] rfl (by decide) rfl [0, 1] rfl U hU hW⟩⟩ rfl rfl hl.1 rfl (lv_room (Nat.le_of_ble_eq_true rfl)) dX1_turn_36 ⟨Nat.le_of_ble_eq_true rfl, Nat.le_of_ble_eq_true rfl⟩) (fun r_36 u H locs hw_36 hP hD hS => ?_)
    have hP : va_P D vwCl [(o, .inr (3, [.ref q1, .ref q2, .ref q3, .ref q4])), (q1, .inl (cI, 12, .inl (upd hf i0.toNatClampNeg (-(hf i0.toNatClampNeg))))), (q2, .inl (cZ, 12, .inl (upd bf i0.toNatClampNeg (f_z (-hf i0.toNatClampNeg) (1 - bf i0.toNatClampNeg)))))] H := hP
    have hD : va_D A [(o, .inr (3, [.ref q1, .ref q2, .ref q3, .ref q4])), (q1, .inl (cI, 12, .inl (upd hf i0.toNatClampNeg (-(hf i0.toNatClampNeg))))), (q2, .inl (cZ, 12, .inl (upd bf i0.toNatClampNeg (f_z (-hf i0.toNatClampNeg) (1 - bf i0.toNatClampNeg)))))] := hD
    have hw_36 : r_36 = f_bt (-(hf i0.toNatClampNeg)) (f_z (-hf i0.toNatClampNeg) (1 - bf i0.toNatClampNeg)) := hw_36
    subst hw_36
    have hP9 := hP.sub (ws' := [(o, .inr (3, [.ref q1, .ref q2, .ref q3, .ref q4])), (q1, .inl (cI, 12, .inl (upd hf i0.toNatClampNeg (-(hf i0.toNatClampNeg))))), (q2, .inl (cZ, 12, .inl (upd bf i0.toNatClampNeg (f_z (-hf i0.toNatClampNeg) (1 - bf i0.toNatClampNeg)))))]) [0, 1, 2] rfl
    have hD9 := hD.sub (ws' := [(o, .inr (3, [.ref q1, .ref q2, .ref q3, .ref q4])), (q1, .inl (cI, 12, .inl (upd hf i0.toNatClampNeg (-(hf i0.toNatClampNeg))))), (q2, .inl (cZ, 12, .inl (upd bf i0.toNatClampNeg (f_z (-hf i0.toNatClampNeg) (1 - bf i0.toNatClampNeg)))))]) [0, 1, 2] (by decide) rfl
    exact W.lret (v := f_bt (-(hf i0.toNatClampNeg)) (f_z (-hf i0.toNatClampNeg) (1 - bf i0.toNatClampNeg))) hx hb hr (fun t ht hW => ⟨⟨f_bt (-(hf i0.toNatClampNeg)) (f_z (-hf i0.toNatClampNeg) (1 - bf i0.toNatClampNeg)), (), rfl, (f_bt_z _ _), by rw [ht]; exact hP9, va_K.moved hW.alike hK, hD9⟩, hS.F ht⟩) hS.2.2 dX1_turn_39
  · refine lv_aload_n hx hb dX1_turn_22 rfl (lv_at hl 0 rfl) ?_
    refine va_get (D := D) (ci := 3) (v := .ref q2) (C := RX1) (T := TX1) (N := 4) hx hb hts in_X1_turn_X1 hown hK hP 0 rfl rfl 1 (by decide) (hts (.fieldLink RX1 13 "Nearestclock" "isBelow" "[Z") (List.mem_of_getElem? (i := 2) rfl)) (fun _ h9 => h9) rfl dX1_turn_23 ?_
    refine lv_iload_n hx hb dX1_turn_26 rfl (lv_at hl 1 rfl) ?_
    refine va_zald hx hb hK hP 2 1 rfl rfl (by assumption) dX1_turn_27 ?_
    refine lv_if_ne (tgt := 35) hx hb dX1_turn_28 (by decide) (fun c_28 => ?_) (fun c_28 => ?_)
    · refine lv_iconst (v := 0) hx hb dX1_turn_35 (by decide) ?_
      refine ny_ti (x2 := f_z (-hf i0.toNatClampNeg) (1 - bf i0.toNatClampNeg)) (n_tz2 c_19 c_28 (gB _ (n_ix gp0))) ?_
      refine ny_l (wc := [(o, .inr (3, [.ref q1, .ref q2, .ref q3, .ref q4])), (q1, .inl (cI, 12, .inl hf)), (q2, .inl (cZ, 12, .inl bf))]) (wr := []) hP hD hS hA [0, 1, 2] [] rfl rfl (by decide) (by decide) (va_runV (As := [.int i0, .int (-(hf i0.toNatClampNeg)), .int (f_z (-hf i0.toNatClampNeg) (1 - bf i0.toNatClampNeg))]) (rest := []) ⟨hx, hb, hml, hown, hts⟩ (c_X1_keep l D cI cZ o q1 q2 q3 q4 s.heap.size hf bf i0 (-(hf i0.toNatClampNeg)) (f_z (-hf i0.toNatClampNeg) (1 - bf i0.toNatClampNeg)) (by assumption) (ny_R_ng (gH _ (n_ix gp0))) (f_z_B (n_1b (gB _ (n_ix gp0))))) (cwV 3 hts gX1_turn_X1_keep rfl rfl rfl (by decide +kernel) ⟨Nat.le_of_ble_eq_true rfl, Nat.le_of_ble_eq_true rfl⟩) ⟨ny_blind, va_recv hK hP (ci := 3) (q0 := 0) rfl rfl, fun U hU hW => ⟨rfl, ny_preU hE hP hK hD hS hA [0, 1, 2] rfl (by decide) rfl [0, 1] rfl U hU hW⟩⟩ rfl rfl hl.1 rfl (lv_room (Nat.le_of_ble_eq_true rfl)) dX1_turn_36 ⟨Nat.le_of_ble_eq_true rfl, Nat.le_of_ble_eq_true rfl⟩) (fun r_36 u H locs hw_36 hP hD hS => ?_)
      have hP : va_P D vwCl [(o, .inr (3, [.ref q1, .ref q2, .ref q3, .ref q4])), (q1, .inl (cI, 12, .inl (upd hf i0.toNatClampNeg (-(hf i0.toNatClampNeg))))), (q2, .inl (cZ, 12, .inl (upd bf i0.toNatClampNeg (f_z (-hf i0.toNatClampNeg) (1 - bf i0.toNatClampNeg)))))] H := hP
      have hD : va_D A [(o, .inr (3, [.ref q1, .ref q2, .ref q3, .ref q4])), (q1, .inl (cI, 12, .inl (upd hf i0.toNatClampNeg (-(hf i0.toNatClampNeg))))), (q2, .inl (cZ, 12, .inl (upd bf i0.toNatClampNeg (f_z (-hf i0.toNatClampNeg) (1 - bf i0.toNatClampNeg)))))] := hD
      have hw_36 : r_36 = f_bt (-(hf i0.toNatClampNeg)) (f_z (-hf i0.toNatClampNeg) (1 - bf i0.toNatClampNeg)) := hw_36
      subst hw_36
      have hP9 := hP.sub (ws' := [(o, .inr (3, [.ref q1, .ref q2, .ref q3, .ref q4])), (q1, .inl (cI, 12, .inl (upd hf i0.toNatClampNeg (-(hf i0.toNatClampNeg))))), (q2, .inl (cZ, 12, .inl (upd bf i0.toNatClampNeg (f_z (-hf i0.toNatClampNeg) (1 - bf i0.toNatClampNeg)))))]) [0, 1, 2] rfl
      have hD9 := hD.sub (ws' := [(o, .inr (3, [.ref q1, .ref q2, .ref q3, .ref q4])), (q1, .inl (cI, 12, .inl (upd hf i0.toNatClampNeg (-(hf i0.toNatClampNeg))))), (q2, .inl (cZ, 12, .inl (upd bf i0.toNatClampNeg (f_z (-hf i0.toNatClampNeg) (1 - bf i0.toNatClampNeg)))))]) [0, 1, 2] (by decide) rfl
      exact W.lret (v := f_bt (-(hf i0.toNatClampNeg)) (f_z (-hf i0.toNatClampNeg) (1 - bf i0.toNatClampNeg))) hx hb hr (fun t ht hW => ⟨⟨f_bt (-(hf i0.toNatClampNeg)) (f_z (-hf i0.toNatClampNeg) (1 - bf i0.toNatClampNeg)), (), rfl, (f_bt_z _ _), by rw [ht]; exact hP9, va_K.moved hW.alike hK, hD9⟩, hS.F ht⟩) hS.2.2 dX1_turn_39
    · refine lv_iconst (v := 1) hx hb dX1_turn_31 (by decide) ?_
      refine lv_goto (tgt := 36) hx hb dX1_turn_32 (by decide) ?_
      refine ny_ti (x2 := f_z (-hf i0.toNatClampNeg) (1 - bf i0.toNatClampNeg)) (n_tz1 c_19 c_28) ?_
      refine ny_l (wc := [(o, .inr (3, [.ref q1, .ref q2, .ref q3, .ref q4])), (q1, .inl (cI, 12, .inl hf)), (q2, .inl (cZ, 12, .inl bf))]) (wr := []) hP hD hS hA [0, 1, 2] [] rfl rfl (by decide) (by decide) (va_runV (As := [.int i0, .int (-(hf i0.toNatClampNeg)), .int (f_z (-hf i0.toNatClampNeg) (1 - bf i0.toNatClampNeg))]) (rest := []) ⟨hx, hb, hml, hown, hts⟩ (c_X1_keep l D cI cZ o q1 q2 q3 q4 s.heap.size hf bf i0 (-(hf i0.toNatClampNeg)) (f_z (-hf i0.toNatClampNeg) (1 - bf i0.toNatClampNeg)) (by assumption) (ny_R_ng (gH _ (n_ix gp0))) (f_z_B (n_1b (gB _ (n_ix gp0))))) (cwV 3 hts gX1_turn_X1_keep rfl rfl rfl (by decide +kernel) ⟨Nat.le_of_ble_eq_true rfl, Nat.le_of_ble_eq_true rfl⟩) ⟨ny_blind, va_recv hK hP (ci := 3) (q0 := 0) rfl rfl, fun U hU hW => ⟨rfl, ny_preU hE hP hK hD hS hA [0, 1, 2] rfl (by decide) rfl [0, 1] rfl U hU hW⟩⟩ rfl rfl hl.1 rfl (lv_room (Nat.le_of_ble_eq_true rfl)) dX1_turn_36 ⟨Nat.le_of_ble_eq_true rfl, Nat.le_of_ble_eq_true rfl⟩) (fun r_36 u H locs hw_36 hP hD hS => ?_)
      have hP : va_P D vwCl [(o, .inr (3, [.ref q1, .ref q2, .ref q3, .ref q4])), (q1, .inl (cI, 12, .inl (upd hf i0.toNatClampNeg (-(hf i0.toNatClampNeg))))), (q2, .inl (cZ, 12, .inl (upd bf i0.toNatClampNeg (f_z (-hf i0.toNatClampNeg) (1 - bf i0.toNatClampNeg)))))] H := hP
      have hD : va_D A [(o, .inr (3, [.ref q1, .ref q2, .ref q3, .ref q4])), (q1, .inl (cI, 12, .inl (upd hf i0.toNatClampNeg (-(hf i0.toNatClampNeg))))), (q2, .inl (cZ, 12, .inl (upd bf i0.toNatClampNeg (f_z (-hf i0.toNatClampNeg) (1 - bf i0.toNatClampNeg)))))] := hD
      have hw_36 : r_36 = f_bt (-(hf i0.toNatClampNeg)) (f_z (-hf i0.toNatClampNeg) (1 - bf i0.toNatClampNeg)) := hw_36
      subst hw_36
      have hP9 := hP.sub (ws' := [(o, .inr (3, [.ref q1, .ref q2, .ref q3, .ref q4])), (q1, .inl (cI, 12, .inl (upd hf i0.toNatClampNeg (-(hf i0.toNatClampNeg))))), (q2, .inl (cZ, 12, .inl (upd bf i0.toNatClampNeg (f_z (-hf i0.toNatClampNeg) (1 - bf i0.toNatClampNeg)))))]) [0, 1, 2] rfl
      have hD9 := hD.sub (ws' := [(o, .inr (3, [.ref q1, .ref q2, .ref q3, .ref q4])), (q1, .inl (cI, 12, .inl (upd hf i0.toNatClampNeg (-(hf i0.toNatClampNeg))))), (q2, .inl (cZ, 12, .inl (upd bf i0.toNatClampNeg (f_z (-hf i0.toNatClampNeg) (1 - bf i0.toNatClampNeg)))))]) [0, 1, 2] (by decide) rfl
      exact W.lret (v := f_bt (-(hf i0.toNatClampNeg)) (f_z (-hf i0.toNatClampNeg) (1 - bf i0.toNatClampNeg))) hx hb hr (fun t ht hW => ⟨⟨f_bt (-(hf i0.toNatClampNeg)) (f_z (-hf i0.toNatClampNeg) (1 - bf i0.toNatClampNeg)), (), rfl, (f_bt_z _ _), by rw [ht]; exact hP9, va_K.moved hW.alike hK, hD9⟩, hS.F ht⟩) hS.2.2 dX1_turn_39
set_option maxHeartbeats 4000000 in
set_option maxRecDepth 100000 in
theorem c_X1_turn_noP (l : Launch) (D : va_G) (cI : ClassId) (cZ : ClassId) (o : Nat) (q1 : Nat) (q2 : Nat) (q3 : Nat) (q4 : Nat) (sz : Nat) (hf : Nat → Int32) (bf : Nat → Int32) (i0 : Int32) (gl : l.stackTraces = false) (gb : ¬ vp_in i0 12) : vx_Met l yX1_turn wsX1_turn ({ frames := 7, cells := 1, slots := 6, locals := 110 }) (va_Pc [.ref o, .int i0] (ny_pre D [(cI, .int), (cZ, .boolean)] [(o, .inr (3, [.ref q1, .ref q2, .ref q3, .ref q4])), (q1, .inl (cI, 12, .inl hf)), (q2, .inl (cZ, 12, .inl bf))] sz)) (fun _ _ _ _ => False) (vx_X (fun _ : Unit => True) (fun E' _ _ => E' = ny_IO) (fun _ => False)) 1 6 (va_A [(o, .inr (3, [.ref q1, .ref q2, .ref q3, .ref q4])), (q1, .inl (cI, 12, .inl hf)), (q2, .inl (cZ, 12, .inl bf))] sz) := by
  refine vx_ofW (cc := cX1_turn) (maxL := 2) (ret := (some .long)) (by decide) rfl ?_
  intro p e s m args below meth c s₁ B hml ht hv
  obtain ⟨rfl, hsz, hP, hK, hD0, hE⟩ := hv
  have hx := B.exec
  have hb := B.bytes
  have hr := B.returns
  have hts := atoms_spec (ws := wsX1_turn) B.pre
  have hown : s.vm.findClass RX1 = some m.cls := findClass_of_methodNamed B.named
  have hlocks := B.notSynchronized
  subst hsz
  have hD := hD0.self (sz := s.heap.size)
  generalize hAe : va_A [(o, .inr (3, [.ref q1, .ref q2, .ref q3, .ref q4])), (q1, .inl (cI, 12, .inl hf)), (q2, .inl (cZ, 12, .inl bf))] s.heap.size = A at hD hE ⊢
  have hA : ∀ q : Nat, s.heap.size ≤ q → A q := fun q h => by rw [← hAe]; exact Or.inr h
  have hS : va_S A s.heap s.heap [] := va_S.rf
  have hl := lv_entry ([.ref o, .int i0]) (n := 2) (Nat.le_of_ble_eq_true rfl)
  rw [lg_entry_eq]
  generalize (lg_sl ([.ref o, .int i0]) ++ List.replicate (2 - (lg_sl ([.ref o, .int i0])).length) Slot.unset).toArray = ls at hl ⊢
  have hl : lv_has ls 2 [(0, .ref o), (1, .int i0)] := hl
  refine lv_iload_n hx hb dX1_turn_0 rfl (lv_at hl 1 rfl) ?_
  exact ny_th hS (va_free (wc := []) hD hS hA [] rfl) ht hlocks (Nat.le_of_ble_eq_true rfl) (Nat.le_of_ble_eq_true rfl) (vx_runS (As := [.int i0]) (rest := []) ⟨hx, hb, hml, hown, hts⟩ (c_X1_needPlace_no l D s.heap.size i0 (by assumption) (by assumption)) (va_cwS 1 hts gX1_turn_X1_needPlace rfl rfl rfl (by decide +kernel) ⟨Nat.le_of_ble_eq_true rfl, Nat.le_of_ble_eq_true rfl⟩) ⟨ny_blind, fun U hU hW => ⟨rfl, ny_preU hE hP hK hD hS hA [] rfl (by decide) rfl [] rfl U hU hW⟩⟩ rfl rfl hl.1 rfl (lv_room (Nat.le_of_ble_eq_true rfl)) dX1_turn_1 ⟨Nat.le_of_ble_eq_true rfl, Nat.le_of_ble_eq_true rfl⟩)
theorem in_X1_eighths_X1 : ∀ w ∈ wsX10, w ∈ wsX1_eighths := (fun _ h => List.mem_cons_of_mem _ (List.mem_append_left _ (List.mem_append_left _ (List.mem_append_right _ h))))
set_option maxHeartbeats 4000000 in
set_option maxRecDepth 100000 in
theorem c_X1_eighths (l : Launch) (D : va_G) (cI : ClassId) (cZ : ClassId) (o : Nat) (q1 : Nat) (q2 : Nat) (q3 : Nat) (q4 : Nat) (sz : Nat) (hf : Nat → Int32) (bf : Nat → Int32) (i0 : Int32) (gp0 : vp_in i0 12) : Met l yX1_eighths wsX1_eighths ({ frames := 1, cells := 0, slots := 0, locals := 20 }) (va_Pc [.ref o, .int i0] (ny_pre D [(cI, .int), (cZ, .boolean)] [(o, .inr (3, [.ref q1, .ref q2, .ref q3, .ref q4])), (q1, .inl (cI, 12, .inl hf)), (q2, .inl (cZ, 12, .inl bf))] sz)) (vp_Si (fun r => r = hf i0.toNatClampNeg)) 0 0 (fun _ => False) := by
  refine Met.ofW (cc := cX1_eighths) (maxL := 2) (ret := (some .int)) (by decide) rfl ?_
  intro p e s m args below meth c s₁ B hml hv
  obtain ⟨rfl, hsz, hP, hK, hD0, hE⟩ := hv
  have hx := B.exec
  have hb := B.bytes
  have hr := B.returns
  have hts := atoms_spec (ws := wsX1_eighths) B.pre
  have hown : s.vm.findClass RX1 = some m.cls := findClass_of_methodNamed B.named
  have hlocks := B.notSynchronized
  subst hsz
  have hD := hD0.self (sz := s.heap.size)
  generalize hAe : va_A [(o, .inr (3, [.ref q1, .ref q2, .ref q3, .ref q4])), (q1, .inl (cI, 12, .inl hf)), (q2, .inl (cZ, 12, .inl bf))] s.heap.size = A at hD hE
  have hA : ∀ q : Nat, s.heap.size ≤ q → A q := fun q h => by rw [← hAe]; exact Or.inr h
  have hS : va_S A s.heap s.heap [] := va_S.rf
  have hl := lv_entry ([.ref o, .int i0]) (n := 2) (Nat.le_of_ble_eq_true rfl)
  rw [lg_entry_eq]
  generalize (lg_sl ([.ref o, .int i0]) ++ List.replicate (2 - (lg_sl ([.ref o, .int i0])).length) Slot.unset).toArray = ls at hl ⊢
  have hl : lv_has ls 2 [(0, .ref o), (1, .int i0)] := hl
  refine lv_iload_n hx hb dX1_eighths_0 rfl (lv_at hl 1 rfl) ?_
  refine va_csv (va_Run.run (va_runS (As := [.int i0]) (rest := []) ⟨hx, hb, hml, hown, hts⟩ (c_X1_needPlace l i0 (by assumption)) (va_cwS 1 hts gX1_eighths_X1_needPlace rfl rfl rfl (by decide +kernel) ⟨Nat.le_of_ble_eq_true rfl, Nat.le_of_ble_eq_true rfl⟩) ⟨ny_blindT, fun U hU hW => ⟨rfl, trivial⟩⟩ rfl rfl hl.1 rfl (lv_room (Nat.le_of_ble_eq_true rfl)) dX1_eighths_1 ⟨Nat.le_of_ble_eq_true rfl, Nat.le_of_ble_eq_true rfl⟩)) (fun hw => ?_)
  refine lv_aload_n hx hb dX1_eighths_4 rfl (lv_at hl 0 rfl) ?_
  refine va_get (D := D) (ci := 3) (v := .ref q1) (C := RX1) (T := TX1) (N := 4) hx hb hts in_X1_eighths_X1 hown hK hP 0 rfl rfl 0 (by decide) (hts (.fieldLink RX1 9 "Nearestclock" "held" "[I") (List.mem_of_getElem? (i := 1) rfl)) (fun _ h9 => h9) rfl dX1_eighths_5 ?_
  refine lv_iload_n hx hb dX1_eighths_8 rfl (lv_at hl 1 rfl) ?_
  refine va_iald hx hb hK hP 1 0 rfl rfl (by assumption) dX1_eighths_9 ?_
  exact W.iret (v := hf i0.toNatClampNeg) hx hb hr (fun t ht hW => ⟨hf i0.toNatClampNeg, rfl, (rfl), ht⟩) (fun q hq => absurd hq List.not_mem_nil) dX1_eighths_10
set_option maxHeartbeats 4000000 in
set_option maxRecDepth 100000 in
theorem c_X1_eighths_noP (l : Launch) (D : va_G) (cI : ClassId) (cZ : ClassId) (o : Nat) (q1 : Nat) (q2 : Nat) (q3 : Nat) (q4 : Nat) (sz : Nat) (hf : Nat → Int32) (bf : Nat → Int32) (i0 : Int32) (gl : l.stackTraces = false) (gb : ¬ vp_in i0 12) : vx_Met l yX1_eighths wsX1_eighths ({ frames := 7, cells := 1, slots := 6, locals := 110 }) (va_Pc [.ref o, .int i0] (ny_pre D [(cI, .int), (cZ, .boolean)] [(o, .inr (3, [.ref q1, .ref q2, .ref q3, .ref q4])), (q1, .inl (cI, 12, .inl hf)), (q2, .inl (cZ, 12, .inl bf))] sz)) (fun _ _ _ _ => False) (vx_X (fun _ : Unit => True) (fun E' _ _ => E' = ny_IO) (fun _ => False)) 1 6 (va_A [(o, .inr (3, [.ref q1, .ref q2, .ref q3, .ref q4])), (q1, .inl (cI, 12, .inl hf)), (q2, .inl (cZ, 12, .inl bf))] sz) := by
  refine vx_ofW (cc := cX1_eighths) (maxL := 2) (ret := (some .int)) (by decide) rfl ?_
  intro p e s m args below meth c s₁ B hml ht hv
  obtain ⟨rfl, hsz, hP, hK, hD0, hE⟩ := hv
  have hx := B.exec
  have hb := B.bytes
  have hr := B.returns
  have hts := atoms_spec (ws := wsX1_eighths) B.pre
  have hown : s.vm.findClass RX1 = some m.cls := findClass_of_methodNamed B.named
  have hlocks := B.notSynchronized
  subst hsz
  have hD := hD0.self (sz := s.heap.size)
  generalize hAe : va_A [(o, .inr (3, [.ref q1, .ref q2, .ref q3, .ref q4])), (q1, .inl (cI, 12, .inl hf)), (q2, .inl (cZ, 12, .inl bf))] s.heap.size = A at hD hE ⊢
  have hA : ∀ q : Nat, s.heap.size ≤ q → A q := fun q h => by rw [← hAe]; exact Or.inr h
  have hS : va_S A s.heap s.heap [] := va_S.rf
  have hl := lv_entry ([.ref o, .int i0]) (n := 2) (Nat.le_of_ble_eq_true rfl)
  rw [lg_entry_eq]
  generalize (lg_sl ([.ref o, .int i0]) ++ List.replicate (2 - (lg_sl ([.ref o, .int i0])).length) Slot.unset).toArray = ls at hl ⊢
  have hl : lv_has ls 2 [(0, .ref o), (1, .int i0)] := hl
  refine lv_iload_n hx hb dX1_eighths_0 rfl (lv_at hl 1 rfl) ?_
  exact ny_th hS (va_free (wc := []) hD hS hA [] rfl) ht hlocks (Nat.le_of_ble_eq_true rfl) (Nat.le_of_ble_eq_true rfl) (vx_runS (As := [.int i0]) (rest := []) ⟨hx, hb, hml, hown, hts⟩ (c_X1_needPlace_no l D s.heap.size i0 (by assumption) (by assumption)) (va_cwS 1 hts gX1_eighths_X1_needPlace rfl rfl rfl (by decide +kernel) ⟨Nat.le_of_ble_eq_true rfl, Nat.le_of_ble_eq_true rfl⟩) ⟨ny_blind, fun U hU hW => ⟨rfl, ny_preU hE hP hK hD hS hA [] rfl (by decide) rfl [] rfl U hU hW⟩⟩ rfl rfl hl.1 rfl (lv_room (Nat.le_of_ble_eq_true rfl)) dX1_eighths_1 ⟨Nat.le_of_ble_eq_true rfl, Nat.le_of_ble_eq_true rfl⟩)
set_option maxHeartbeats 4000000 in
set_option maxRecDepth 100000 in
theorem c_X1_bits (l : Launch) (D : va_G) (cI : ClassId) (cZ : ClassId) (o : Nat) (q1 : Nat) (q2 : Nat) (q3 : Nat) (q4 : Nat) (sz : Nat) (hf : Nat → Int32) (bf : Nat → Int32) (i0 : Int32) (gp0 : vp_in i0 12) (gH : ny_H hf) : Met l yX1_bits wsX1_bits ({ frames := 3, cells := 0, slots := 0, locals := 72 }) (va_Pc [.ref o, .int i0] (ny_pre D [(cI, .int), (cZ, .boolean)] [(o, .inr (3, [.ref q1, .ref q2, .ref q3, .ref q4])), (q1, .inl (cI, 12, .inl hf)), (q2, .inl (cZ, 12, .inl bf))] sz)) (vp_Sl (fun r => r = f_bt (hf i0.toNatClampNeg) (bf i0.toNatClampNeg))) 0 0 (fun _ => False) := by
  refine Met.ofW (cc := cX1_bits) (maxL := 2) (ret := (some .long)) (by decide) rfl ?_
  intro p e s m args below meth c s₁ B hml hv
  obtain ⟨rfl, hsz, hP, hK, hD0, hE⟩ := hv
  have hx := B.exec
  have hb := B.bytes
  have hr := B.returns
  have hts := atoms_spec (ws := wsX1_bits) B.pre
  have hown : s.vm.findClass RX1 = some m.cls := findClass_of_methodNamed B.named
  have hlocks := B.notSynchronized
  subst hsz
  have hD := hD0.self (sz := s.heap.size)
  generalize hAe : va_A [(o, .inr (3, [.ref q1, .ref q2, .ref q3, .ref q4])), (q1, .inl (cI, 12, .inl hf)), (q2, .inl (cZ, 12, .inl bf))] s.heap.size = A at hD hE
  have hA : ∀ q : Nat, s.heap.size ≤ q → A q := fun q h => by rw [← hAe]; exact Or.inr h
  have hS : va_S A s.heap s.heap [] := va_S.rf
  have hl := lv_entry ([.ref o, .int i0]) (n := 2) (Nat.le_of_ble_eq_true rfl)
  rw [lg_entry_eq]
  generalize (lg_sl ([.ref o, .int i0]) ++ List.replicate (2 - (lg_sl ([.ref o, .int i0])).length) Slot.unset).toArray = ls at hl ⊢
  have hl : lv_has ls 2 [(0, .ref o), (1, .int i0)] := hl
  refine lv_iload_n hx hb dX1_bits_0 rfl (lv_at hl 1 rfl) ?_
  refine va_csv (va_Run.run (va_runS (As := [.int i0]) (rest := []) ⟨hx, hb, hml, hown, hts⟩ (c_X1_needPlace l i0 (by assumption)) (va_cwS 1 hts gX1_bits_X1_needPlace rfl rfl rfl (by decide +kernel) ⟨Nat.le_of_ble_eq_true rfl, Nat.le_of_ble_eq_true rfl⟩) ⟨ny_blindT, fun U hU hW => ⟨rfl, trivial⟩⟩ rfl rfl hl.1 rfl (lv_room (Nat.le_of_ble_eq_true rfl)) dX1_bits_1 ⟨Nat.le_of_ble_eq_true rfl, Nat.le_of_ble_eq_true rfl⟩)) (fun hw => ?_)
  refine lv_aload_n hx hb dX1_bits_4 rfl (lv_at hl 0 rfl) ?_
  refine lv_iload_n hx hb dX1_bits_5 rfl (lv_at hl 1 rfl) ?_
  refine vp_callSl (va_Run.run (va_runV (As := [.int i0]) (rest := []) ⟨hx, hb, hml, hown, hts⟩ (c_X1_bitsAt l D cI cZ o q1 q2 q3 q4 s.heap.size hf bf i0 (by assumption) (gH _ (n_ix gp0))) (cwV 1 hts gX1_bits_X1_bitsAt rfl rfl rfl (by decide +kernel) ⟨Nat.le_of_ble_eq_true rfl, Nat.le_of_ble_eq_true rfl⟩) ⟨ny_blind, va_recv hK hP (ci := 3) (q0 := 0) rfl rfl, fun U hU hW => ⟨rfl, ny_preU hE hP hK hD hS hA [0, 1, 2] rfl (by decide) rfl [0, 1] rfl U hU hW⟩⟩ rfl rfl hl.1 rfl (lv_room (Nat.le_of_ble_eq_true rfl)) dX1_bits_6 ⟨Nat.le_of_ble_eq_true rfl, Nat.le_of_ble_eq_true rfl⟩)) (fun r_6 hw_6 => ?_)
  have hw_6 : r_6 = f_bt (hf i0.toNatClampNeg) (bf i0.toNatClampNeg) := hw_6
  subst hw_6
  exact W.lret (v := f_bt (hf i0.toNatClampNeg) (bf i0.toNatClampNeg)) hx hb hr (fun t ht hW => ⟨f_bt (hf i0.toNatClampNeg) (bf i0.toNatClampNeg), rfl, (rfl), ht⟩) (fun q hq => absurd hq List.not_mem_nil) dX1_bits_9
set_option maxHeartbeats 4000000 in
set_option maxRecDepth 100000 in
theorem c_X1_bits_noP (l : Launch) (D : va_G) (cI : ClassId) (cZ : ClassId) (o : Nat) (q1 : Nat) (q2 : Nat) (q3 : Nat) (q4 : Nat) (sz : Nat) (hf : Nat → Int32) (bf : Nat → Int32) (i0 : Int32) (gl : l.stackTraces = false) (gb : ¬ vp_in i0 12) : vx_Met l yX1_bits wsX1_bits ({ frames := 7, cells := 1, slots := 6, locals := 110 }) (va_Pc [.ref o, .int i0] (ny_pre D [(cI, .int), (cZ, .boolean)] [(o, .inr (3, [.ref q1, .ref q2, .ref q3, .ref q4])), (q1, .inl (cI, 12, .inl hf)), (q2, .inl (cZ, 12, .inl bf))] sz)) (fun _ _ _ _ => False) (vx_X (fun _ : Unit => True) (fun E' _ _ => E' = ny_IO) (fun _ => False)) 1 6 (va_A [(o, .inr (3, [.ref q1, .ref q2, .ref q3, .ref q4])), (q1, .inl (cI, 12, .inl hf)), (q2, .inl (cZ, 12, .inl bf))] sz) := by
  refine vx_ofW (cc := cX1_bits) (maxL := 2) (ret := (some .long)) (by decide) rfl ?_
  intro p e s m args below meth c s₁ B hml ht hv
  obtain ⟨rfl, hsz, hP, hK, hD0, hE⟩ := hv
  have hx := B.exec
  have hb := B.bytes
  have hr := B.returns
  have hts := atoms_spec (ws := wsX1_bits) B.pre
  have hown : s.vm.findClass RX1 = some m.cls := findClass_of_methodNamed B.named
  have hlocks := B.notSynchronized
  subst hsz
  have hD := hD0.self (sz := s.heap.size)
  generalize hAe : va_A [(o, .inr (3, [.ref q1, .ref q2, .ref q3, .ref q4])), (q1, .inl (cI, 12, .inl hf)), (q2, .inl (cZ, 12, .inl bf))] s.heap.size = A at hD hE ⊢
  have hA : ∀ q : Nat, s.heap.size ≤ q → A q := fun q h => by rw [← hAe]; exact Or.inr h
  have hS : va_S A s.heap s.heap [] := va_S.rf
  have hl := lv_entry ([.ref o, .int i0]) (n := 2) (Nat.le_of_ble_eq_true rfl)
  rw [lg_entry_eq]
  generalize (lg_sl ([.ref o, .int i0]) ++ List.replicate (2 - (lg_sl ([.ref o, .int i0])).length) Slot.unset).toArray = ls at hl ⊢
  have hl : lv_has ls 2 [(0, .ref o), (1, .int i0)] := hl
  refine lv_iload_n hx hb dX1_bits_0 rfl (lv_at hl 1 rfl) ?_
  exact ny_th hS (va_free (wc := []) hD hS hA [] rfl) ht hlocks (Nat.le_of_ble_eq_true rfl) (Nat.le_of_ble_eq_true rfl) (vx_runS (As := [.int i0]) (rest := []) ⟨hx, hb, hml, hown, hts⟩ (c_X1_needPlace_no l D s.heap.size i0 (by assumption) (by assumption)) (va_cwS 1 hts gX1_bits_X1_needPlace rfl rfl rfl (by decide +kernel) ⟨Nat.le_of_ble_eq_true rfl, Nat.le_of_ble_eq_true rfl⟩) ⟨ny_blind, fun U hU hW => ⟨rfl, ny_preU hE hP hK hD hS hA [] rfl (by decide) rfl [] rfl U hU hW⟩⟩ rfl rfl hl.1 rfl (lv_room (Nat.le_of_ble_eq_true rfl)) dX1_bits_1 ⟨Nat.le_of_ble_eq_true rfl, Nat.le_of_ble_eq_true rfl⟩)
theorem in_X1_number_X1 : ∀ w ∈ wsX10, w ∈ wsX1_number := (fun _ h => List.mem_cons_of_mem _ (List.mem_append_left _ (List.mem_append_left _ (List.mem_append_right _ h))))
set_option maxHeartbeats 4000000 in
set_option maxRecDepth 100000 in
theorem c_X1_number (l : Launch) (D : va_G) (cI : ClassId) (cZ : ClassId) (o : Nat) (q1 : Nat) (q2 : Nat) (q3 : Nat) (q4 : Nat) (sz : Nat) (hf : Nat → Int32) (bf : Nat → Int32) (i0 : Int32) (gp0 : vp_in i0 12) (gH : ny_H hf) : Met l yX1_number wsX1_number ({ frames := 1, cells := 0, slots := 0, locals := 20 }) (va_Pc [.ref o, .int i0] (ny_pre D [(cI, .int), (cZ, .boolean)] [(o, .inr (3, [.ref q1, .ref q2, .ref q3, .ref q4])), (q1, .inl (cI, 12, .inl hf)), (q2, .inl (cZ, 12, .inl bf))] sz)) (vp_Sd (fun r => r = f_num (hf i0.toNatClampNeg) (bf i0.toNatClampNeg))) 0 0 (fun _ => False) := by
  refine Met.ofW (cc := cX1_number) (maxL := 2) (ret := (some .double)) (by decide) rfl ?_
  intro p e s m args below meth c s₁ B hml hv
  obtain ⟨rfl, hsz, hP, hK, hD0, hE⟩ := hv
  have hx := B.exec
  have hb := B.bytes
  have hr := B.returns
  have hts := atoms_spec (ws := wsX1_number) B.pre
  have hown : s.vm.findClass RX1 = some m.cls := findClass_of_methodNamed B.named
  have hlocks := B.notSynchronized
  subst hsz
  have hD := hD0.self (sz := s.heap.size)
  generalize hAe : va_A [(o, .inr (3, [.ref q1, .ref q2, .ref q3, .ref q4])), (q1, .inl (cI, 12, .inl hf)), (q2, .inl (cZ, 12, .inl bf))] s.heap.size = A at hD hE
  have hA : ∀ q : Nat, s.heap.size ≤ q → A q := fun q h => by rw [← hAe]; exact Or.inr h
  have hS : va_S A s.heap s.heap [] := va_S.rf
  have hl := lv_entry ([.ref o, .int i0]) (n := 2) (Nat.le_of_ble_eq_true rfl)
  rw [lg_entry_eq]
  generalize (lg_sl ([.ref o, .int i0]) ++ List.replicate (2 - (lg_sl ([.ref o, .int i0])).length) Slot.unset).toArray = ls at hl ⊢
  have hl : lv_has ls 2 [(0, .ref o), (1, .int i0)] := hl
  refine lv_iload_n hx hb dX1_number_0 rfl (lv_at hl 1 rfl) ?_
  refine va_csv (va_Run.run (va_runS (As := [.int i0]) (rest := []) ⟨hx, hb, hml, hown, hts⟩ (c_X1_needPlace l i0 (by assumption)) (va_cwS 1 hts gX1_number_X1_needPlace rfl rfl rfl (by decide +kernel) ⟨Nat.le_of_ble_eq_true rfl, Nat.le_of_ble_eq_true rfl⟩) ⟨ny_blindT, fun U hU hW => ⟨rfl, trivial⟩⟩ rfl rfl hl.1 rfl (lv_room (Nat.le_of_ble_eq_true rfl)) dX1_number_1 ⟨Nat.le_of_ble_eq_true rfl, Nat.le_of_ble_eq_true rfl⟩)) (fun hw => ?_)
  refine lv_aload_n hx hb dX1_number_4 rfl (lv_at hl 0 rfl) ?_
  refine va_get (D := D) (ci := 3) (v := .ref q2) (C := RX1) (T := TX1) (N := 4) hx hb hts in_X1_number_X1 hown hK hP 0 rfl rfl 1 (by decide) (hts (.fieldLink RX1 13 "Nearestclock" "isBelow" "[Z") (List.mem_of_getElem? (i := 1) rfl)) (fun _ h9 => h9) rfl dX1_number_5 ?_
  refine lv_iload_n hx hb dX1_number_8 rfl (lv_at hl 1 rfl) ?_
  refine va_zald hx hb hK hP 2 1 rfl rfl (by assumption) dX1_number_9 ?_
  refine lv_if_eq (tgt := 19) hx hb dX1_number_10 (by decide) (fun c_10 => ?_) (fun c_10 => ?_)
  · refine lv_aload_n hx hb dX1_number_19 rfl (lv_at hl 0 rfl) ?_
    refine va_get (D := D) (ci := 3) (v := .ref q1) (C := RX1) (T := TX1) (N := 4) hx hb hts in_X1_number_X1 hown hK hP 0 rfl rfl 0 (by decide) (hts (.fieldLink RX1 9 "Nearestclock" "held" "[I") (List.mem_of_getElem? (i := 3) rfl)) (fun _ h9 => h9) rfl dX1_number_20 ?_
    refine lv_iload_n hx hb dX1_number_23 rfl (lv_at hl 1 rfl) ?_
    refine va_iald hx hb hK hP 1 0 rfl rfl (by assumption) dX1_number_24 ?_
    refine lv_i2d hx hb dX1_number_25 ?_
    refine lv_ldc2d (own := RX1) (v := 4620693217682128896) hx hb hown (hts (.constantDouble RX1 48 (4620693217682128896)) (List.mem_of_getElem? (i := 4) rfl)) dX1_number_26 ?_
    refine lv_ddiv hx hb dX1_number_29 (n_num (gH _ (n_ix gp0))) ?_
    exact W.dret (v := FP.ddiv (FP.i2d (hf i0.toNatClampNeg)) 4620693217682128896) hx hb hr (fun t ht hW => ⟨FP.ddiv (FP.i2d (hf i0.toNatClampNeg)) 4620693217682128896, rfl, (if_pos c_10).symm, ht⟩) (fun q hq => absurd hq List.not_mem_nil) dX1_number_30
  · refine lv_ldc2d (own := RX1) (v := 9223372036854775808) hx hb hown (hts (.constantDouble RX1 46 (9223372036854775808)) (List.mem_of_getElem? (i := 2) rfl)) dX1_number_13 ?_
    refine lv_goto (tgt := 30) hx hb dX1_number_16 (by decide) ?_
    exact W.dret (v := 9223372036854775808) hx hb hr (fun t ht hW => ⟨9223372036854775808, rfl, (if_neg c_10).symm, ht⟩) (fun q hq => absurd hq List.not_mem_nil) dX1_number_30
set_option maxHeartbeats 4000000 in
set_option maxRecDepth 100000 in
theorem c_X1_number_noP (l : Launch) (D : va_G) (cI : ClassId) (cZ : ClassId) (o : Nat) (q1 : Nat) (q2 : Nat) (q3 : Nat) (q4 : Nat) (sz : Nat) (hf : Nat → Int32) (bf : Nat → Int32) (i0 : Int32) (gl : l.stackTraces = false) (gb : ¬ vp_in i0 12) : vx_Met l yX1_number wsX1_number ({ frames := 7, cells := 1, slots := 6, locals := 110 }) (va_Pc [.ref o, .int i0] (ny_pre D [(cI, .int), (cZ, .boolean)] [(o, .inr (3, [.ref q1, .ref q2, .ref q3, .ref q4])), (q1, .inl (cI, 12, .inl hf)), (q2, .inl (cZ, 12, .inl bf))] sz)) (fun _ _ _ _ => False) (vx_X (fun _ : Unit => True) (fun E' _ _ => E' = ny_IO) (fun _ => False)) 1 6 (va_A [(o, .inr (3, [.ref q1, .ref q2, .ref q3, .ref q4])), (q1, .inl (cI, 12, .inl hf)), (q2, .inl (cZ, 12, .inl bf))] sz) := by
  refine vx_ofW (cc := cX1_number) (maxL := 2) (ret := (some .double)) (by decide) rfl ?_
  intro p e s m args below meth c s₁ B hml ht hv
  obtain ⟨rfl, hsz, hP, hK, hD0, hE⟩ := hv
  have hx := B.exec
  have hb := B.bytes
  have hr := B.returns
  have hts := atoms_spec (ws := wsX1_number) B.pre
  have hown : s.vm.findClass RX1 = some m.cls := findClass_of_methodNamed B.named
  have hlocks := B.notSynchronized
  subst hsz
  have hD := hD0.self (sz := s.heap.size)
  generalize hAe : va_A [(o, .inr (3, [.ref q1, .ref q2, .ref q3, .ref q4])), (q1, .inl (cI, 12, .inl hf)), (q2, .inl (cZ, 12, .inl bf))] s.heap.size = A at hD hE ⊢
  have hA : ∀ q : Nat, s.heap.size ≤ q → A q := fun q h => by rw [← hAe]; exact Or.inr h
  have hS : va_S A s.heap s.heap [] := va_S.rf
  have hl := lv_entry ([.ref o, .int i0]) (n := 2) (Nat.le_of_ble_eq_true rfl)
  rw [lg_entry_eq]
  generalize (lg_sl ([.ref o, .int i0]) ++ List.replicate (2 - (lg_sl ([.ref o, .int i0])).length) Slot.unset).toArray = ls at hl ⊢
  have hl : lv_has ls 2 [(0, .ref o), (1, .int i0)] := hl
  refine lv_iload_n hx hb dX1_number_0 rfl (lv_at hl 1 rfl) ?_
  exact ny_th hS (va_free (wc := []) hD hS hA [] rfl) ht hlocks (Nat.le_of_ble_eq_true rfl) (Nat.le_of_ble_eq_true rfl) (vx_runS (As := [.int i0]) (rest := []) ⟨hx, hb, hml, hown, hts⟩ (c_X1_needPlace_no l D s.heap.size i0 (by assumption) (by assumption)) (va_cwS 1 hts gX1_number_X1_needPlace rfl rfl rfl (by decide +kernel) ⟨Nat.le_of_ble_eq_true rfl, Nat.le_of_ble_eq_true rfl⟩) ⟨ny_blind, fun U hU hW => ⟨rfl, ny_preU hE hP hK hD hS hA [] rfl (by decide) rfl [] rfl U hU hW⟩⟩ rfl rfl hl.1 rfl (lv_room (Nat.le_of_ble_eq_true rfl)) dX1_number_1 ⟨Nat.le_of_ble_eq_true rfl, Nat.le_of_ble_eq_true rfl⟩)
set_option maxHeartbeats 4000000 in
set_option maxRecDepth 100000 in
theorem c_X1_keepRest_noP (l : Launch) (D : va_G) (cI : ClassId) (cZ : ClassId) (o : Nat) (q1 : Nat) (q2 : Nat) (q3 : Nat) (q4 : Nat) (sz : Nat) (hf : Nat → Int32) (bf : Nat → Int32) (i0 : Int32) (i1 : Int32) (i2 : Int32) (gl : l.stackTraces = false) (gb : ¬ vp_in i0 12 ∨ (¬ vp_in i1 12 ∨ ¬ vp_in i2 12)) : vx_Met l yX1_keepRest wsX1_keepRest ({ frames := 8, cells := 1, slots := 6, locals := 132 }) (va_Pc [.ref o, .int i0, .int i1, .int i2] (ny_pre D [(cI, .int), (cZ, .boolean)] [(o, .inr (3, [.ref q1, .ref q2, .ref q3, .ref q4])), (q1, .inl (cI, 12, .inl hf)), (q2, .inl (cZ, 12, .inl bf))] sz)) (fun _ _ _ _ => False) (vx_X (fun _ : Unit => True) (fun E' _ _ => E' = ny_IO) (fun _ => False)) 1 6 (va_A [(o, .inr (3, [.ref q1, .ref q2, .ref q3, .ref q4])), (q1, .inl (cI, 12, .inl hf)), (q2, .inl (cZ, 12, .inl bf))] sz) := by
  refine vx_ofW (cc := cX1_keepRest) (maxL := 4) (ret := (some .long)) (by decide) rfl ?_
  intro p e s m args below meth c s₁ B hml ht hv
  obtain ⟨rfl, hsz, hP, hK, hD0, hE⟩ := hv
  have hx := B.exec
  have hb := B.bytes
  have hr := B.returns
  have hts := atoms_spec (ws := wsX1_keepRest) B.pre
  have hown : s.vm.findClass RX1 = some m.cls := findClass_of_methodNamed B.named
  have hlocks := B.notSynchronized
  subst hsz
  have hD := hD0.self (sz := s.heap.size)
  generalize hAe : va_A [(o, .inr (3, [.ref q1, .ref q2, .ref q3, .ref q4])), (q1, .inl (cI, 12, .inl hf)), (q2, .inl (cZ, 12, .inl bf))] s.heap.size = A at hD hE ⊢
  have hA : ∀ q : Nat, s.heap.size ≤ q → A q := fun q h => by rw [← hAe]; exact Or.inr h
  have hS : va_S A s.heap s.heap [] := va_S.rf
  have hl := lv_entry ([.ref o, .int i0, .int i1, .int i2]) (n := 4) (Nat.le_of_ble_eq_true rfl)
  rw [lg_entry_eq]
  generalize (lg_sl ([.ref o, .int i0, .int i1, .int i2]) ++ List.replicate (4 - (lg_sl ([.ref o, .int i0, .int i1, .int i2])).length) Slot.unset).toArray = ls at hl ⊢
  have hl : lv_has ls 4 [(0, .ref o), (1, .int i0), (2, .int i1), (3, .int i2)] := hl
  refine lv_iload_n hx hb dX1_keepRest_0 rfl (lv_at hl 1 rfl) ?_
  by_cases q_1 : vp_in i0 12
  · have gb := gb.resolve_left (fun h => h q_1)
    refine va_csv (va_Run.run (va_runS (As := [.int i0]) (rest := []) ⟨hx, hb, hml, hown, hts⟩ (c_X1_needPlace l i0 (by assumption)) (va_cwS 1 hts gX1_keepRest_X1_needPlace rfl rfl rfl (by decide +kernel) ⟨Nat.le_of_ble_eq_true rfl, Nat.le_of_ble_eq_true rfl⟩) ⟨ny_blindT, fun U hU hW => ⟨rfl, trivial⟩⟩ rfl rfl hl.1 rfl (lv_room (Nat.le_of_ble_eq_true rfl)) dX1_keepRest_1 ⟨Nat.le_of_ble_eq_true rfl, Nat.le_of_ble_eq_true rfl⟩)) (fun hw => ?_)
    refine lv_aload_n hx hb dX1_keepRest_4 rfl (lv_at hl 0 rfl) ?_
    refine lv_iload_n hx hb dX1_keepRest_5 rfl (lv_at hl 2 rfl) ?_
    refine lv_iload_n hx hb dX1_keepRest_6 rfl (lv_at hl 3 rfl) ?_
    exact ny_th hS (va_free (wc := [(o, .inr (3, [.ref q1, .ref q2, .ref q3, .ref q4])), (q1, .inl (cI, 12, .inl hf)), (q2, .inl (cZ, 12, .inl bf))]) hD hS hA [0, 1, 2] rfl) ht hlocks (Nat.le_of_ble_eq_true rfl) (Nat.le_of_ble_eq_true rfl) (vx_runV (As := [.int i1, .int i2]) (rest := []) ⟨hx, hb, hml, hown, hts⟩ (c_X1_needDivision_noP l D cI cZ o q1 q2 q3 q4 s.heap.size hf bf i1 i2 (by assumption) (by assumption)) (cwV 2 hts gX1_keepRest_X1_needDivision rfl rfl rfl (by decide +kernel) ⟨Nat.le_of_ble_eq_true rfl, Nat.le_of_ble_eq_true rfl⟩) ⟨ny_blind, va_recv hK hP (ci := 3) (q0 := 0) rfl rfl, fun U hU hW => ⟨rfl, ny_preU hE hP hK hD hS hA [0, 1, 2] rfl (by decide) rfl [0, 1] rfl U hU hW⟩⟩ rfl rfl hl.1 rfl (lv_room (Nat.le_of_ble_eq_true rfl)) dX1_keepRest_7 ⟨Nat.le_of_ble_eq_true rfl, Nat.le_of_ble_eq_true rfl⟩)
  · exact ny_th hS (va_free (wc := []) hD hS hA [] rfl) ht hlocks (Nat.le_of_ble_eq_true rfl) (Nat.le_of_ble_eq_true rfl) (vx_runS (As := [.int i0]) (rest := []) ⟨hx, hb, hml, hown, hts⟩ (c_X1_needPlace_no l D s.heap.size i0 (by assumption) (by assumption)) (va_cwS 1 hts gX1_keepRest_X1_needPlace rfl rfl rfl (by decide +kernel) ⟨Nat.le_of_ble_eq_true rfl, Nat.le_of_ble_eq_true rfl⟩) ⟨ny_blind, fun U hU hW => ⟨rfl, ny_preU hE hP hK hD hS hA [] rfl (by decide) rfl [] rfl U hU hW⟩⟩ rfl rfl hl.1 rfl (lv_room (Nat.le_of_ble_eq_true rfl)) dX1_keepRest_1 ⟨Nat.le_of_ble_eq_true rfl, Nat.le_of_ble_eq_true rfl⟩)
set_option maxHeartbeats 4000000 in
set_option maxRecDepth 100000 in
theorem c_X1_keepRest_no0 (l : Launch) (D : va_G) (cI : ClassId) (cZ : ClassId) (o : Nat) (q1 : Nat) (q2 : Nat) (q3 : Nat) (q4 : Nat) (sz : Nat) (hf : Nat → Int32) (bf : Nat → Int32) (i0 : Int32) (i1 : Int32) (i2 : Int32) (gl : l.stackTraces = false) (gp0 : vp_in i0 12) (gp1 : vp_in i1 12) (gp2 : vp_in i2 12) (g0 : hf i2.toNatClampNeg = 0) : vx_Met l yX1_keepRest wsX1_keepRest ({ frames := 7, cells := 1, slots := 6, locals := 112 }) (va_Pc [.ref o, .int i0, .int i1, .int i2] (ny_pre D [(cI, .int), (cZ, .boolean)] [(o, .inr (3, [.ref q1, .ref q2, .ref q3, .ref q4])), (q1, .inl (cI, 12, .inl hf)), (q2, .inl (cZ, 12, .inl bf))] sz)) (fun _ _ _ _ => False) (vx_X (fun _ : Unit => True) (fun E' _ _ => E' = ny_AE) (fun _ => False)) 1 6 (va_A [(o, .inr (3, [.ref q1, .ref q2, .ref q3, .ref q4])), (q1, .inl (cI, 12, .inl hf)), (q2, .inl (cZ, 12, .inl bf))] sz) := by
  refine vx_ofW (cc := cX1_keepRest) (maxL := 4) (ret := (some .long)) (by decide) rfl ?_
  intro p e s m args below meth c s₁ B hml ht hv
  obtain ⟨rfl, hsz, hP, hK, hD0, hE⟩ := hv
  have hx := B.exec
  have hb := B.bytes
  have hr := B.returns
  have hts := atoms_spec (ws := wsX1_keepRest) B.pre
  have hown : s.vm.findClass RX1 = some m.cls := findClass_of_methodNamed B.named
  have hlocks := B.notSynchronized
  subst hsz
  have hD := hD0.self (sz := s.heap.size)
  generalize hAe : va_A [(o, .inr (3, [.ref q1, .ref q2, .ref q3, .ref q4])), (q1, .inl (cI, 12, .inl hf)), (q2, .inl (cZ, 12, .inl bf))] s.heap.size = A at hD hE ⊢
  have hA : ∀ q : Nat, s.heap.size ≤ q → A q := fun q h => by rw [← hAe]; exact Or.inr h
  have hS : va_S A s.heap s.heap [] := va_S.rf
  have hl := lv_entry ([.ref o, .int i0, .int i1, .int i2]) (n := 4) (Nat.le_of_ble_eq_true rfl)
  rw [lg_entry_eq]
  generalize (lg_sl ([.ref o, .int i0, .int i1, .int i2]) ++ List.replicate (4 - (lg_sl ([.ref o, .int i0, .int i1, .int i2])).length) Slot.unset).toArray = ls at hl ⊢
  have hl : lv_has ls 4 [(0, .ref o), (1, .int i0), (2, .int i1), (3, .int i2)] := hl
  refine lv_iload_n hx hb dX1_keepRest_0 rfl (lv_at hl 1 rfl) ?_
  refine va_csv (va_Run.run (va_runS (As := [.int i0]) (rest := []) ⟨hx, hb, hml, hown, hts⟩ (c_X1_needPlace l i0 (by assumption)) (va_cwS 1 hts gX1_keepRest_X1_needPlace rfl rfl rfl (by decide +kernel) ⟨Nat.le_of_ble_eq_true rfl, Nat.le_of_ble_eq_true rfl⟩) ⟨ny_blindT, fun U hU hW => ⟨rfl, trivial⟩⟩ rfl rfl hl.1 rfl (lv_room (Nat.le_of_ble_eq_true rfl)) dX1_keepRest_1 ⟨Nat.le_of_ble_eq_true rfl, Nat.le_of_ble_eq_true rfl⟩)) (fun hw => ?_)
  refine lv_aload_n hx hb dX1_keepRest_4 rfl (lv_at hl 0 rfl) ?_
  refine lv_iload_n hx hb dX1_keepRest_5 rfl (lv_at hl 2 rfl) ?_
  refine lv_iload_n hx hb dX1_keepRest_6 rfl (lv_at hl 3 rfl) ?_
  exact ny_th hS (va_free (wc := [(o, .inr (3, [.ref q1, .ref q2, .ref q3, .ref q4])), (q1, .inl (cI, 12, .inl hf)), (q2, .inl (cZ, 12, .inl bf))]) hD hS hA [0, 1, 2] rfl) ht hlocks (Nat.le_of_ble_eq_true rfl) (Nat.le_of_ble_eq_true rfl) (vx_runV (As := [.int i1, .int i2]) (rest := []) ⟨hx, hb, hml, hown, hts⟩ (c_X1_needDivision_no0 l D cI cZ o q1 q2 q3 q4 s.heap.size hf bf i1 i2 (by assumption) (by assumption) (by assumption) (by assumption)) (cwV 2 hts gX1_keepRest_X1_needDivision rfl rfl rfl (by decide +kernel) ⟨Nat.le_of_ble_eq_true rfl, Nat.le_of_ble_eq_true rfl⟩) ⟨ny_blind, va_recv hK hP (ci := 3) (q0 := 0) rfl rfl, fun U hU hW => ⟨rfl, ny_preU hE hP hK hD hS hA [0, 1, 2] rfl (by decide) rfl [0, 1] rfl U hU hW⟩⟩ rfl rfl hl.1 rfl (lv_room (Nat.le_of_ble_eq_true rfl)) dX1_keepRest_7 ⟨Nat.le_of_ble_eq_true rfl, Nat.le_of_ble_eq_true rfl⟩)
set_option maxHeartbeats 4000000 in
set_option maxRecDepth 100000 in
theorem c_X1_rest (l : Launch) (D : va_G) (cI : ClassId) (cZ : ClassId) (o : Nat) (q1 : Nat) (q2 : Nat) (q3 : Nat) (q4 : Nat) (sz : Nat) (hf : Nat → Int32) (bf : Nat → Int32) (i0 : Int32) (i1 : Int32) (i2 : Int32) (gp0 : vp_in i0 12) (gp1 : vp_in i1 12) (gp2 : vp_in i2 12) (g0 : ¬ hf i2.toNatClampNeg = 0) (gH : ny_H hf) (gB : ny_BB bf) : Met l yX1_rest wsX1_rest ({ frames := 6, cells := 0, slots := 0, locals := 141 }) (va_Pc [.ref o, .int i0, .int i1, .int i2] (ny_pre D [(cI, .int), (cZ, .boolean)] [(o, .inr (3, [.ref q1, .ref q2, .ref q3, .ref q4])), (q1, .inl (cI, 12, .inl hf)), (q2, .inl (cZ, 12, .inl bf))] sz)) (va_Ql (fun (r : Int64) (u : Unit) => r = f_bt (f_re (hf i1.toNatClampNeg) (hf i2.toNatClampNeg)) (f_un (hf i1.toNatClampNeg) (bf i1.toNatClampNeg))) (fun (u : Unit) t => ny_at D [(cI, .int), (cZ, .boolean)] (va_A [(o, .inr (3, [.ref q1, .ref q2, .ref q3, .ref q4])), (q1, .inl (cI, 12, .inl hf)), (q2, .inl (cZ, 12, .inl bf))] sz) [(o, .inr (3, [.ref q1, .ref q2, .ref q3, .ref q4])), (q1, .inl (cI, 12, .inl (upd hf i0.toNatClampNeg (f_re (hf i1.toNatClampNeg) (hf i2.toNatClampNeg))))), (q2, .inl (cZ, 12, .inl (upd bf i0.toNatClampNeg (f_z (f_re (hf i1.toNatClampNeg) (hf i2.toNatClampNeg)) (f_un (hf i1.toNatClampNeg) (bf i1.toNatClampNeg))))))] t) (va_A [(o, .inr (3, [.ref q1, .ref q2, .ref q3, .ref q4])), (q1, .inl (cI, 12, .inl hf)), (q2, .inl (cZ, 12, .inl bf))] sz)) 0 0 (va_A [(o, .inr (3, [.ref q1, .ref q2, .ref q3, .ref q4])), (q1, .inl (cI, 12, .inl hf)), (q2, .inl (cZ, 12, .inl bf))] sz) := by
  refine Met.ofW (cc := cX1_rest) (maxL := 4) (ret := (some .long)) (by decide) rfl ?_
  intro p e s m args below meth c s₁ B hml hv
  obtain ⟨rfl, hsz, hP, hK, hD0, hE⟩ := hv
  have hx := B.exec
  have hb := B.bytes
  have hr := B.returns
  have hts := atoms_spec (ws := wsX1_rest) B.pre
  have hown : s.vm.findClass RX1 = some m.cls := findClass_of_methodNamed B.named
  have hlocks := B.notSynchronized
  subst hsz
  have hD := hD0.self (sz := s.heap.size)
  generalize hAe : va_A [(o, .inr (3, [.ref q1, .ref q2, .ref q3, .ref q4])), (q1, .inl (cI, 12, .inl hf)), (q2, .inl (cZ, 12, .inl bf))] s.heap.size = A at hD hE ⊢
  have hA : ∀ q : Nat, s.heap.size ≤ q → A q := fun q h => by rw [← hAe]; exact Or.inr h
  have hS : va_S A s.heap s.heap [] := va_S.rf
  have hl := lv_entry ([.ref o, .int i0, .int i1, .int i2]) (n := 4) (Nat.le_of_ble_eq_true rfl)
  rw [lg_entry_eq]
  generalize (lg_sl ([.ref o, .int i0, .int i1, .int i2]) ++ List.replicate (4 - (lg_sl ([.ref o, .int i0, .int i1, .int i2])).length) Slot.unset).toArray = ls at hl ⊢
  have hl : lv_has ls 4 [(0, .ref o), (1, .int i0), (2, .int i1), (3, .int i2)] := hl
  refine lv_aload_n hx hb dX1_rest_0 rfl (lv_at hl 0 rfl) ?_
  refine lv_iload_n hx hb dX1_rest_1 rfl (lv_at hl 1 rfl) ?_
  refine lv_iload_n hx hb dX1_rest_2 rfl (lv_at hl 2 rfl) ?_
  refine lv_iload_n hx hb dX1_rest_3 rfl (lv_at hl 3 rfl) ?_
  refine ny_l (wc := [(o, .inr (3, [.ref q1, .ref q2, .ref q3, .ref q4])), (q1, .inl (cI, 12, .inl hf)), (q2, .inl (cZ, 12, .inl bf))]) (wr := []) hP hD hS hA [0, 1, 2] [] rfl rfl (by decide) (by decide) (va_runV (As := [.int i0, .int i1, .int i2]) (rest := []) ⟨hx, hb, hml, hown, hts⟩ (c_X1_keepRest l D cI cZ o q1 q2 q3 q4 s.heap.size hf bf i0 i1 i2 (by assumption) (by assumption) (by assumption) (by assumption) (by assumption) (by assumption)) (cwV 3 hts gX1_rest_X1_keepRest rfl rfl rfl (by decide +kernel) ⟨Nat.le_of_ble_eq_true rfl, Nat.le_of_ble_eq_true rfl⟩) ⟨ny_blind, va_recv hK hP (ci := 3) (q0 := 0) rfl rfl, fun U hU hW => ⟨rfl, ny_preU hE hP hK hD hS hA [0, 1, 2] rfl (by decide) rfl [0, 1] rfl U hU hW⟩⟩ rfl rfl hl.1 rfl (lv_room (Nat.le_of_ble_eq_true rfl)) dX1_rest_4 ⟨Nat.le_of_ble_eq_true rfl, Nat.le_of_ble_eq_true rfl⟩) (fun r_4 u H locs hw_4 hP hD hS => ?_)
  have hP : va_P D vwCl [(o, .inr (3, [.ref q1, .ref q2, .ref q3, .ref q4])), (q1, .inl (cI, 12, .inl (upd hf i0.toNatClampNeg (f_re (hf i1.toNatClampNeg) (hf i2.toNatClampNeg))))), (q2, .inl (cZ, 12, .inl (upd bf i0.toNatClampNeg (f_z (f_re (hf i1.toNatClampNeg) (hf i2.toNatClampNeg)) (f_un (hf i1.toNatClampNeg) (bf i1.toNatClampNeg))))))] H := hP
  have hD : va_D A [(o, .inr (3, [.ref q1, .ref q2, .ref q3, .ref q4])), (q1, .inl (cI, 12, .inl (upd hf i0.toNatClampNeg (f_re (hf i1.toNatClampNeg) (hf i2.toNatClampNeg))))), (q2, .inl (cZ, 12, .inl (upd bf i0.toNatClampNeg (f_z (f_re (hf i1.toNatClampNeg) (hf i2.toNatClampNeg)) (f_un (hf i1.toNatClampNeg) (bf i1.toNatClampNeg))))))] := hD
  have hw_4 : r_4 = f_bt (f_re (hf i1.toNatClampNeg) (hf i2.toNatClampNeg)) (f_un (hf i1.toNatClampNeg) (bf i1.toNatClampNeg)) := hw_4
  subst hw_4
  have hP9 := hP.sub (ws' := [(o, .inr (3, [.ref q1, .ref q2, .ref q3, .ref q4])), (q1, .inl (cI, 12, .inl (upd hf i0.toNatClampNeg (f_re (hf i1.toNatClampNeg) (hf i2.toNatClampNeg))))), (q2, .inl (cZ, 12, .inl (upd bf i0.toNatClampNeg (f_z (f_re (hf i1.toNatClampNeg) (hf i2.toNatClampNeg)) (f_un (hf i1.toNatClampNeg) (bf i1.toNatClampNeg))))))]) [0, 1, 2] rfl
  have hD9 := hD.sub (ws' := [(o, .inr (3, [.ref q1, .ref q2, .ref q3, .ref q4])), (q1, .inl (cI, 12, .inl (upd hf i0.toNatClampNeg (f_re (hf i1.toNatClampNeg) (hf i2.toNatClampNeg))))), (q2, .inl (cZ, 12, .inl (upd bf i0.toNatClampNeg (f_z (f_re (hf i1.toNatClampNeg) (hf i2.toNatClampNeg)) (f_un (hf i1.toNatClampNeg) (bf i1.toNatClampNeg))))))]) [0, 1, 2] (by decide) rfl
  exact W.lret (v := f_bt (f_re (hf i1.toNatClampNeg) (hf i2.toNatClampNeg)) (f_un (hf i1.toNatClampNeg) (bf i1.toNatClampNeg))) hx hb hr (fun t ht hW => ⟨⟨f_bt (f_re (hf i1.toNatClampNeg) (hf i2.toNatClampNeg)) (f_un (hf i1.toNatClampNeg) (bf i1.toNatClampNeg)), (), rfl, (rfl), by rw [ht]; exact hP9, va_K.moved hW.alike hK, hD9⟩, hS.F ht⟩) hS.2.2 dX1_rest_7
set_option maxHeartbeats 4000000 in
set_option maxRecDepth 100000 in
theorem c_X1_rest_noP (l : Launch) (D : va_G) (cI : ClassId) (cZ : ClassId) (o : Nat) (q1 : Nat) (q2 : Nat) (q3 : Nat) (q4 : Nat) (sz : Nat) (hf : Nat → Int32) (bf : Nat → Int32) (i0 : Int32) (i1 : Int32) (i2 : Int32) (gl : l.stackTraces = false) (gb : ¬ vp_in i0 12 ∨ (¬ vp_in i1 12 ∨ ¬ vp_in i2 12)) : vx_Met l yX1_rest wsX1_rest ({ frames := 9, cells := 1, slots := 6, locals := 155 }) (va_Pc [.ref o, .int i0, .int i1, .int i2] (ny_pre D [(cI, .int), (cZ, .boolean)] [(o, .inr (3, [.ref q1, .ref q2, .ref q3, .ref q4])), (q1, .inl (cI, 12, .inl hf)), (q2, .inl (cZ, 12, .inl bf))] sz)) (fun _ _ _ _ => False) (vx_X (fun _ : Unit => True) (fun E' _ _ => E' = ny_IO) (fun _ => False)) 1 6 (va_A [(o, .inr (3, [.ref q1, .ref q2, .ref q3, .ref q4])), (q1, .inl (cI, 12, .inl hf)), (q2, .inl (cZ, 12, .inl bf))] sz) := by
  refine vx_ofW (cc := cX1_rest) (maxL := 4) (ret := (some .long)) (by decide) rfl ?_
  intro p e s m args below meth c s₁ B hml ht hv
  obtain ⟨rfl, hsz, hP, hK, hD0, hE⟩ := hv
  have hx := B.exec
  have hb := B.bytes
  have hr := B.returns
  have hts := atoms_spec (ws := wsX1_rest) B.pre
  have hown : s.vm.findClass RX1 = some m.cls := findClass_of_methodNamed B.named
  have hlocks := B.notSynchronized
  subst hsz
  have hD := hD0.self (sz := s.heap.size)
  generalize hAe : va_A [(o, .inr (3, [.ref q1, .ref q2, .ref q3, .ref q4])), (q1, .inl (cI, 12, .inl hf)), (q2, .inl (cZ, 12, .inl bf))] s.heap.size = A at hD hE ⊢
  have hA : ∀ q : Nat, s.heap.size ≤ q → A q := fun q h => by rw [← hAe]; exact Or.inr h
  have hS : va_S A s.heap s.heap [] := va_S.rf
  have hl := lv_entry ([.ref o, .int i0, .int i1, .int i2]) (n := 4) (Nat.le_of_ble_eq_true rfl)
  rw [lg_entry_eq]
  generalize (lg_sl ([.ref o, .int i0, .int i1, .int i2]) ++ List.replicate (4 - (lg_sl ([.ref o, .int i0, .int i1, .int i2])).length) Slot.unset).toArray = ls at hl ⊢
  have hl : lv_has ls 4 [(0, .ref o), (1, .int i0), (2, .int i1), (3, .int i2)] := hl
  refine lv_aload_n hx hb dX1_rest_0 rfl (lv_at hl 0 rfl) ?_
  refine lv_iload_n hx hb dX1_rest_1 rfl (lv_at hl 1 rfl) ?_
  refine lv_iload_n hx hb dX1_rest_2 rfl (lv_at hl 2 rfl) ?_
  refine lv_iload_n hx hb dX1_rest_3 rfl (lv_at hl 3 rfl) ?_
  exact ny_th hS (va_free (wc := [(o, .inr (3, [.ref q1, .ref q2, .ref q3, .ref q4])), (q1, .inl (cI, 12, .inl hf)), (q2, .inl (cZ, 12, .inl bf))]) hD hS hA [0, 1, 2] rfl) ht hlocks (Nat.le_of_ble_eq_true rfl) (Nat.le_of_ble_eq_true rfl) (vx_runV (As := [.int i0, .int i1, .int i2]) (rest := []) ⟨hx, hb, hml, hown, hts⟩ (c_X1_keepRest_noP l D cI cZ o q1 q2 q3 q4 s.heap.size hf bf i0 i1 i2 (by assumption) (by assumption)) (cwV 3 hts gX1_rest_X1_keepRest rfl rfl rfl (by decide +kernel) ⟨Nat.le_of_ble_eq_true rfl, Nat.le_of_ble_eq_true rfl⟩) ⟨ny_blind, va_recv hK hP (ci := 3) (q0 := 0) rfl rfl, fun U hU hW => ⟨rfl, ny_preU hE hP hK hD hS hA [0, 1, 2] rfl (by decide) rfl [0, 1] rfl U hU hW⟩⟩ rfl rfl hl.1 rfl (lv_room (Nat.le_of_ble_eq_true rfl)) dX1_rest_4 ⟨Nat.le_of_ble_eq_true rfl, Nat.le_of_ble_eq_true rfl⟩)
set_option maxHeartbeats 4000000 in
set_option maxRecDepth 100000 in
theorem c_X1_rest_no0 (l : Launch) (D : va_G) (cI : ClassId) (cZ : ClassId) (o : Nat) (q1 : Nat) (q2 : Nat) (q3 : Nat) (q4 : Nat) (sz : Nat) (hf : Nat → Int32) (bf : Nat → Int32) (i0 : Int32) (i1 : Int32) (i2 : Int32) (gl : l.stackTraces = false) (gp0 : vp_in i0 12) (gp1 : vp_in i1 12) (gp2 : vp_in i2 12) (g0 : hf i2.toNatClampNeg = 0) : vx_Met l yX1_rest wsX1_rest ({ frames := 8, cells := 1, slots := 6, locals := 135 }) (va_Pc [.ref o, .int i0, .int i1, .int i2] (ny_pre D [(cI, .int), (cZ, .boolean)] [(o, .inr (3, [.ref q1, .ref q2, .ref q3, .ref q4])), (q1, .inl (cI, 12, .inl hf)), (q2, .inl (cZ, 12, .inl bf))] sz)) (fun _ _ _ _ => False) (vx_X (fun _ : Unit => True) (fun E' _ _ => E' = ny_AE) (fun _ => False)) 1 6 (va_A [(o, .inr (3, [.ref q1, .ref q2, .ref q3, .ref q4])), (q1, .inl (cI, 12, .inl hf)), (q2, .inl (cZ, 12, .inl bf))] sz) := by
  refine vx_ofW (cc := cX1_rest) (maxL := 4) (ret := (some .long)) (by decide) rfl ?_
  intro p e s m args below meth c s₁ B hml ht hv
  obtain ⟨rfl, hsz, hP, hK, hD0, hE⟩ := hv
  have hx := B.exec
  have hb := B.bytes
  have hr := B.returns
  have hts := atoms_spec (ws := wsX1_rest) B.pre
  have hown : s.vm.findClass RX1 = some m.cls := findClass_of_methodNamed B.named
  have hlocks := B.notSynchronized
  subst hsz
  have hD := hD0.self (sz := s.heap.size)
  generalize hAe : va_A [(o, .inr (3, [.ref q1, .ref q2, .ref q3, .ref q4])), (q1, .inl (cI, 12, .inl hf)), (q2, .inl (cZ, 12, .inl bf))] s.heap.size = A at hD hE ⊢
  have hA : ∀ q : Nat, s.heap.size ≤ q → A q := fun q h => by rw [← hAe]; exact Or.inr h
  have hS : va_S A s.heap s.heap [] := va_S.rf
  have hl := lv_entry ([.ref o, .int i0, .int i1, .int i2]) (n := 4) (Nat.le_of_ble_eq_true rfl)
  rw [lg_entry_eq]
  generalize (lg_sl ([.ref o, .int i0, .int i1, .int i2]) ++ List.replicate (4 - (lg_sl ([.ref o, .int i0, .int i1, .int i2])).length) Slot.unset).toArray = ls at hl ⊢
  have hl : lv_has ls 4 [(0, .ref o), (1, .int i0), (2, .int i1), (3, .int i2)] := hl
  refine lv_aload_n hx hb dX1_rest_0 rfl (lv_at hl 0 rfl) ?_
  refine lv_iload_n hx hb dX1_rest_1 rfl (lv_at hl 1 rfl) ?_
  refine lv_iload_n hx hb dX1_rest_2 rfl (lv_at hl 2 rfl) ?_
  refine lv_iload_n hx hb dX1_rest_3 rfl (lv_at hl 3 rfl) ?_
  exact ny_th hS (va_free (wc := [(o, .inr (3, [.ref q1, .ref q2, .ref q3, .ref q4])), (q1, .inl (cI, 12, .inl hf)), (q2, .inl (cZ, 12, .inl bf))]) hD hS hA [0, 1, 2] rfl) ht hlocks (Nat.le_of_ble_eq_true rfl) (Nat.le_of_ble_eq_true rfl) (vx_runV (As := [.int i0, .int i1, .int i2]) (rest := []) ⟨hx, hb, hml, hown, hts⟩ (c_X1_keepRest_no0 l D cI cZ o q1 q2 q3 q4 s.heap.size hf bf i0 i1 i2 (by assumption) (by assumption) (by assumption) (by assumption) (by assumption)) (cwV 3 hts gX1_rest_X1_keepRest rfl rfl rfl (by decide +kernel) ⟨Nat.le_of_ble_eq_true rfl, Nat.le_of_ble_eq_true rfl⟩) ⟨ny_blind, va_recv hK hP (ci := 3) (q0 := 0) rfl rfl, fun U hU hW => ⟨rfl, ny_preU hE hP hK hD hS hA [0, 1, 2] rfl (by decide) rfl [0, 1] rfl U hU hW⟩⟩ rfl rfl hl.1 rfl (lv_room (Nat.le_of_ble_eq_true rfl)) dX1_rest_4 ⟨Nat.le_of_ble_eq_true rfl, Nat.le_of_ble_eq_true rfl⟩)
set_option maxHeartbeats 4000000 in
set_option maxRecDepth 100000 in
theorem c_X1_restToo (l : Launch) (D : va_G) (cI : ClassId) (cZ : ClassId) (o : Nat) (q1 : Nat) (q2 : Nat) (q3 : Nat) (q4 : Nat) (sz : Nat) (hf : Nat → Int32) (bf : Nat → Int32) (i0 : Int32) (i1 : Int32) (i2 : Int32) (gp0 : vp_in i0 12) (gp1 : vp_in i1 12) (gp2 : vp_in i2 12) (g0 : ¬ hf i2.toNatClampNeg = 0) (gH : ny_H hf) (gB : ny_BB bf) : Met l yX1_restToo wsX1_restToo ({ frames := 6, cells := 0, slots := 0, locals := 141 }) (va_Pc [.ref o, .int i0, .int i1, .int i2] (ny_pre D [(cI, .int), (cZ, .boolean)] [(o, .inr (3, [.ref q1, .ref q2, .ref q3, .ref q4])), (q1, .inl (cI, 12, .inl hf)), (q2, .inl (cZ, 12, .inl bf))] sz)) (va_Ql (fun (r : Int64) (u : Unit) => r = f_bt (f_re (hf i1.toNatClampNeg) (hf i2.toNatClampNeg)) (f_un (hf i1.toNatClampNeg) (bf i1.toNatClampNeg))) (fun (u : Unit) t => ny_at D [(cI, .int), (cZ, .boolean)] (va_A [(o, .inr (3, [.ref q1, .ref q2, .ref q3, .ref q4])), (q1, .inl (cI, 12, .inl hf)), (q2, .inl (cZ, 12, .inl bf))] sz) [(o, .inr (3, [.ref q1, .ref q2, .ref q3, .ref q4])), (q1, .inl (cI, 12, .inl (upd hf i0.toNatClampNeg (f_re (hf i1.toNatClampNeg) (hf i2.toNatClampNeg))))), (q2, .inl (cZ, 12, .inl (upd bf i0.toNatClampNeg (f_z (f_re (hf i1.toNatClampNeg) (hf i2.toNatClampNeg)) (f_un (hf i1.toNatClampNeg) (bf i1.toNatClampNeg))))))] t) (va_A [(o, .inr (3, [.ref q1, .ref q2, .ref q3, .ref q4])), (q1, .inl (cI, 12, .inl hf)), (q2, .inl (cZ, 12, .inl bf))] sz)) 0 0 (va_A [(o, .inr (3, [.ref q1, .ref q2, .ref q3, .ref q4])), (q1, .inl (cI, 12, .inl hf)), (q2, .inl (cZ, 12, .inl bf))] sz) := by
  refine Met.ofW (cc := cX1_restToo) (maxL := 4) (ret := (some .long)) (by decide) rfl ?_
  intro p e s m args below meth c s₁ B hml hv
  obtain ⟨rfl, hsz, hP, hK, hD0, hE⟩ := hv
  have hx := B.exec
  have hb := B.bytes
  have hr := B.returns
  have hts := atoms_spec (ws := wsX1_restToo) B.pre
  have hown : s.vm.findClass RX1 = some m.cls := findClass_of_methodNamed B.named
  have hlocks := B.notSynchronized
  subst hsz
  have hD := hD0.self (sz := s.heap.size)
  generalize hAe : va_A [(o, .inr (3, [.ref q1, .ref q2, .ref q3, .ref q4])), (q1, .inl (cI, 12, .inl hf)), (q2, .inl (cZ, 12, .inl bf))] s.heap.size = A at hD hE ⊢
  have hA : ∀ q : Nat, s.heap.size ≤ q → A q := fun q h => by rw [← hAe]; exact Or.inr h
  have hS : va_S A s.heap s.heap [] := va_S.rf
  have hl := lv_entry ([.ref o, .int i0, .int i1, .int i2]) (n := 4) (Nat.le_of_ble_eq_true rfl)
  rw [lg_entry_eq]
  generalize (lg_sl ([.ref o, .int i0, .int i1, .int i2]) ++ List.replicate (4 - (lg_sl ([.ref o, .int i0, .int i1, .int i2])).length) Slot.unset).toArray = ls at hl ⊢
  have hl : lv_has ls 4 [(0, .ref o), (1, .int i0), (2, .int i1), (3, .int i2)] := hl
  refine lv_aload_n hx hb dX1_restToo_0 rfl (lv_at hl 0 rfl) ?_
  refine lv_iload_n hx hb dX1_restToo_1 rfl (lv_at hl 1 rfl) ?_
  refine lv_iload_n hx hb dX1_restToo_2 rfl (lv_at hl 2 rfl) ?_
  refine lv_iload_n hx hb dX1_restToo_3 rfl (lv_at hl 3 rfl) ?_
  refine ny_l (wc := [(o, .inr (3, [.ref q1, .ref q2, .ref q3, .ref q4])), (q1, .inl (cI, 12, .inl hf)), (q2, .inl (cZ, 12, .inl bf))]) (wr := []) hP hD hS hA [0, 1, 2] [] rfl rfl (by decide) (by decide) (va_runV (As := [.int i0, .int i1, .int i2]) (rest := []) ⟨hx, hb, hml, hown, hts⟩ (c_X1_keepRest l D cI cZ o q1 q2 q3 q4 s.heap.size hf bf i0 i1 i2 (by assumption) (by assumption) (by assumption) (by assumption) (by assumption) (by assumption)) (cwV 3 hts gX1_restToo_X1_keepRest rfl rfl rfl (by decide +kernel) ⟨Nat.le_of_ble_eq_true rfl, Nat.le_of_ble_eq_true rfl⟩) ⟨ny_blind, va_recv hK hP (ci := 3) (q0 := 0) rfl rfl, fun U hU hW => ⟨rfl, ny_preU hE hP hK hD hS hA [0, 1, 2] rfl (by decide) rfl [0, 1] rfl U hU hW⟩⟩ rfl rfl hl.1 rfl (lv_room (Nat.le_of_ble_eq_true rfl)) dX1_restToo_4 ⟨Nat.le_of_ble_eq_true rfl, Nat.le_of_ble_eq_true rfl⟩) (fun r_4 u H locs hw_4 hP hD hS => ?_)
  have hP : va_P D vwCl [(o, .inr (3, [.ref q1, .ref q2, .ref q3, .ref q4])), (q1, .inl (cI, 12, .inl (upd hf i0.toNatClampNeg (f_re (hf i1.toNatClampNeg) (hf i2.toNatClampNeg))))), (q2, .inl (cZ, 12, .inl (upd bf i0.toNatClampNeg (f_z (f_re (hf i1.toNatClampNeg) (hf i2.toNatClampNeg)) (f_un (hf i1.toNatClampNeg) (bf i1.toNatClampNeg))))))] H := hP
  have hD : va_D A [(o, .inr (3, [.ref q1, .ref q2, .ref q3, .ref q4])), (q1, .inl (cI, 12, .inl (upd hf i0.toNatClampNeg (f_re (hf i1.toNatClampNeg) (hf i2.toNatClampNeg))))), (q2, .inl (cZ, 12, .inl (upd bf i0.toNatClampNeg (f_z (f_re (hf i1.toNatClampNeg) (hf i2.toNatClampNeg)) (f_un (hf i1.toNatClampNeg) (bf i1.toNatClampNeg))))))] := hD
  have hw_4 : r_4 = f_bt (f_re (hf i1.toNatClampNeg) (hf i2.toNatClampNeg)) (f_un (hf i1.toNatClampNeg) (bf i1.toNatClampNeg)) := hw_4
  subst hw_4
  have hP9 := hP.sub (ws' := [(o, .inr (3, [.ref q1, .ref q2, .ref q3, .ref q4])), (q1, .inl (cI, 12, .inl (upd hf i0.toNatClampNeg (f_re (hf i1.toNatClampNeg) (hf i2.toNatClampNeg))))), (q2, .inl (cZ, 12, .inl (upd bf i0.toNatClampNeg (f_z (f_re (hf i1.toNatClampNeg) (hf i2.toNatClampNeg)) (f_un (hf i1.toNatClampNeg) (bf i1.toNatClampNeg))))))]) [0, 1, 2] rfl
  have hD9 := hD.sub (ws' := [(o, .inr (3, [.ref q1, .ref q2, .ref q3, .ref q4])), (q1, .inl (cI, 12, .inl (upd hf i0.toNatClampNeg (f_re (hf i1.toNatClampNeg) (hf i2.toNatClampNeg))))), (q2, .inl (cZ, 12, .inl (upd bf i0.toNatClampNeg (f_z (f_re (hf i1.toNatClampNeg) (hf i2.toNatClampNeg)) (f_un (hf i1.toNatClampNeg) (bf i1.toNatClampNeg))))))]) [0, 1, 2] (by decide) rfl
  exact W.lret (v := f_bt (f_re (hf i1.toNatClampNeg) (hf i2.toNatClampNeg)) (f_un (hf i1.toNatClampNeg) (bf i1.toNatClampNeg))) hx hb hr (fun t ht hW => ⟨⟨f_bt (f_re (hf i1.toNatClampNeg) (hf i2.toNatClampNeg)) (f_un (hf i1.toNatClampNeg) (bf i1.toNatClampNeg)), (), rfl, (rfl), by rw [ht]; exact hP9, va_K.moved hW.alike hK, hD9⟩, hS.F ht⟩) hS.2.2 dX1_restToo_7
set_option maxHeartbeats 4000000 in
set_option maxRecDepth 100000 in
theorem c_X1_restToo_noP (l : Launch) (D : va_G) (cI : ClassId) (cZ : ClassId) (o : Nat) (q1 : Nat) (q2 : Nat) (q3 : Nat) (q4 : Nat) (sz : Nat) (hf : Nat → Int32) (bf : Nat → Int32) (i0 : Int32) (i1 : Int32) (i2 : Int32) (gl : l.stackTraces = false) (gb : ¬ vp_in i0 12 ∨ (¬ vp_in i1 12 ∨ ¬ vp_in i2 12)) : vx_Met l yX1_restToo wsX1_restToo ({ frames := 9, cells := 1, slots := 6, locals := 155 }) (va_Pc [.ref o, .int i0, .int i1, .int i2] (ny_pre D [(cI, .int), (cZ, .boolean)] [(o, .inr (3, [.ref q1, .ref q2, .ref q3, .ref q4])), (q1, .inl (cI, 12, .inl hf)), (q2, .inl (cZ, 12, .inl bf))] sz)) (fun _ _ _ _ => False) (vx_X (fun _ : Unit => True) (fun E' _ _ => E' = ny_IO) (fun _ => False)) 1 6 (va_A [(o, .inr (3, [.ref q1, .ref q2, .ref q3, .ref q4])), (q1, .inl (cI, 12, .inl hf)), (q2, .inl (cZ, 12, .inl bf))] sz) := by
  refine vx_ofW (cc := cX1_restToo) (maxL := 4) (ret := (some .long)) (by decide) rfl ?_
  intro p e s m args below meth c s₁ B hml ht hv
  obtain ⟨rfl, hsz, hP, hK, hD0, hE⟩ := hv
  have hx := B.exec
  have hb := B.bytes
  have hr := B.returns
  have hts := atoms_spec (ws := wsX1_restToo) B.pre
  have hown : s.vm.findClass RX1 = some m.cls := findClass_of_methodNamed B.named
  have hlocks := B.notSynchronized
  subst hsz
  have hD := hD0.self (sz := s.heap.size)
  generalize hAe : va_A [(o, .inr (3, [.ref q1, .ref q2, .ref q3, .ref q4])), (q1, .inl (cI, 12, .inl hf)), (q2, .inl (cZ, 12, .inl bf))] s.heap.size = A at hD hE ⊢
  have hA : ∀ q : Nat, s.heap.size ≤ q → A q := fun q h => by rw [← hAe]; exact Or.inr h
  have hS : va_S A s.heap s.heap [] := va_S.rf
  have hl := lv_entry ([.ref o, .int i0, .int i1, .int i2]) (n := 4) (Nat.le_of_ble_eq_true rfl)
  rw [lg_entry_eq]
  generalize (lg_sl ([.ref o, .int i0, .int i1, .int i2]) ++ List.replicate (4 - (lg_sl ([.ref o, .int i0, .int i1, .int i2])).length) Slot.unset).toArray = ls at hl ⊢
  have hl : lv_has ls 4 [(0, .ref o), (1, .int i0), (2, .int i1), (3, .int i2)] := hl
  refine lv_aload_n hx hb dX1_restToo_0 rfl (lv_at hl 0 rfl) ?_
  refine lv_iload_n hx hb dX1_restToo_1 rfl (lv_at hl 1 rfl) ?_
  refine lv_iload_n hx hb dX1_restToo_2 rfl (lv_at hl 2 rfl) ?_
  refine lv_iload_n hx hb dX1_restToo_3 rfl (lv_at hl 3 rfl) ?_
  exact ny_th hS (va_free (wc := [(o, .inr (3, [.ref q1, .ref q2, .ref q3, .ref q4])), (q1, .inl (cI, 12, .inl hf)), (q2, .inl (cZ, 12, .inl bf))]) hD hS hA [0, 1, 2] rfl) ht hlocks (Nat.le_of_ble_eq_true rfl) (Nat.le_of_ble_eq_true rfl) (vx_runV (As := [.int i0, .int i1, .int i2]) (rest := []) ⟨hx, hb, hml, hown, hts⟩ (c_X1_keepRest_noP l D cI cZ o q1 q2 q3 q4 s.heap.size hf bf i0 i1 i2 (by assumption) (by assumption)) (cwV 3 hts gX1_restToo_X1_keepRest rfl rfl rfl (by decide +kernel) ⟨Nat.le_of_ble_eq_true rfl, Nat.le_of_ble_eq_true rfl⟩) ⟨ny_blind, va_recv hK hP (ci := 3) (q0 := 0) rfl rfl, fun U hU hW => ⟨rfl, ny_preU hE hP hK hD hS hA [0, 1, 2] rfl (by decide) rfl [0, 1] rfl U hU hW⟩⟩ rfl rfl hl.1 rfl (lv_room (Nat.le_of_ble_eq_true rfl)) dX1_restToo_4 ⟨Nat.le_of_ble_eq_true rfl, Nat.le_of_ble_eq_true rfl⟩)
set_option maxHeartbeats 4000000 in
set_option maxRecDepth 100000 in
theorem c_X1_restToo_no0 (l : Launch) (D : va_G) (cI : ClassId) (cZ : ClassId) (o : Nat) (q1 : Nat) (q2 : Nat) (q3 : Nat) (q4 : Nat) (sz : Nat) (hf : Nat → Int32) (bf : Nat → Int32) (i0 : Int32) (i1 : Int32) (i2 : Int32) (gl : l.stackTraces = false) (gp0 : vp_in i0 12) (gp1 : vp_in i1 12) (gp2 : vp_in i2 12) (g0 : hf i2.toNatClampNeg = 0) : vx_Met l yX1_restToo wsX1_restToo ({ frames := 8, cells := 1, slots := 6, locals := 135 }) (va_Pc [.ref o, .int i0, .int i1, .int i2] (ny_pre D [(cI, .int), (cZ, .boolean)] [(o, .inr (3, [.ref q1, .ref q2, .ref q3, .ref q4])), (q1, .inl (cI, 12, .inl hf)), (q2, .inl (cZ, 12, .inl bf))] sz)) (fun _ _ _ _ => False) (vx_X (fun _ : Unit => True) (fun E' _ _ => E' = ny_AE) (fun _ => False)) 1 6 (va_A [(o, .inr (3, [.ref q1, .ref q2, .ref q3, .ref q4])), (q1, .inl (cI, 12, .inl hf)), (q2, .inl (cZ, 12, .inl bf))] sz) := by
  refine vx_ofW (cc := cX1_restToo) (maxL := 4) (ret := (some .long)) (by decide) rfl ?_
  intro p e s m args below meth c s₁ B hml ht hv
  obtain ⟨rfl, hsz, hP, hK, hD0, hE⟩ := hv
  have hx := B.exec
  have hb := B.bytes
  have hr := B.returns
  have hts := atoms_spec (ws := wsX1_restToo) B.pre
  have hown : s.vm.findClass RX1 = some m.cls := findClass_of_methodNamed B.named
  have hlocks := B.notSynchronized
  subst hsz
  have hD := hD0.self (sz := s.heap.size)
  generalize hAe : va_A [(o, .inr (3, [.ref q1, .ref q2, .ref q3, .ref q4])), (q1, .inl (cI, 12, .inl hf)), (q2, .inl (cZ, 12, .inl bf))] s.heap.size = A at hD hE ⊢
  have hA : ∀ q : Nat, s.heap.size ≤ q → A q := fun q h => by rw [← hAe]; exact Or.inr h
  have hS : va_S A s.heap s.heap [] := va_S.rf
  have hl := lv_entry ([.ref o, .int i0, .int i1, .int i2]) (n := 4) (Nat.le_of_ble_eq_true rfl)
  rw [lg_entry_eq]
  generalize (lg_sl ([.ref o, .int i0, .int i1, .int i2]) ++ List.replicate (4 - (lg_sl ([.ref o, .int i0, .int i1, .int i2])).length) Slot.unset).toArray = ls at hl ⊢
  have hl : lv_has ls 4 [(0, .ref o), (1, .int i0), (2, .int i1), (3, .int i2)] := hl
  refine lv_aload_n hx hb dX1_restToo_0 rfl (lv_at hl 0 rfl) ?_
  refine lv_iload_n hx hb dX1_restToo_1 rfl (lv_at hl 1 rfl) ?_
  refine lv_iload_n hx hb dX1_restToo_2 rfl (lv_at hl 2 rfl) ?_
  refine lv_iload_n hx hb dX1_restToo_3 rfl (lv_at hl 3 rfl) ?_
  exact ny_th hS (va_free (wc := [(o, .inr (3, [.ref q1, .ref q2, .ref q3, .ref q4])), (q1, .inl (cI, 12, .inl hf)), (q2, .inl (cZ, 12, .inl bf))]) hD hS hA [0, 1, 2] rfl) ht hlocks (Nat.le_of_ble_eq_true rfl) (Nat.le_of_ble_eq_true rfl) (vx_runV (As := [.int i0, .int i1, .int i2]) (rest := []) ⟨hx, hb, hml, hown, hts⟩ (c_X1_keepRest_no0 l D cI cZ o q1 q2 q3 q4 s.heap.size hf bf i0 i1 i2 (by assumption) (by assumption) (by assumption) (by assumption) (by assumption)) (cwV 3 hts gX1_restToo_X1_keepRest rfl rfl rfl (by decide +kernel) ⟨Nat.le_of_ble_eq_true rfl, Nat.le_of_ble_eq_true rfl⟩) ⟨ny_blind, va_recv hK hP (ci := 3) (q0 := 0) rfl rfl, fun U hU hW => ⟨rfl, ny_preU hE hP hK hD hS hA [0, 1, 2] rfl (by decide) rfl [0, 1] rfl U hU hW⟩⟩ rfl rfl hl.1 rfl (lv_room (Nat.le_of_ble_eq_true rfl)) dX1_restToo_4 ⟨Nat.le_of_ble_eq_true rfl, Nat.le_of_ble_eq_true rfl⟩)
theorem in_X1_times_X1 : ∀ w ∈ wsX10, w ∈ wsX1_times := (fun _ h => List.mem_cons_of_mem _ (List.mem_append_left _ (List.mem_append_left _ (List.mem_append_left _ (List.mem_append_left _ (List.mem_append_right _ h))))))
set_option maxHeartbeats 4000000 in
set_option maxRecDepth 100000 in
theorem c_X1_times (l : Launch) (D : va_G) (cI : ClassId) (cZ : ClassId) (o : Nat) (q1 : Nat) (q2 : Nat) (q3 : Nat) (q4 : Nat) (sz : Nat) (hf : Nat → Int32) (bf : Nat → Int32) (i0 : Int32) (i1 : Int32) (gp0 : vp_in i0 12) (gp1 : vp_in i1 12) (g0 : ¬ hf i1.toNatClampNeg = 0) (gH : ny_H hf) : Met l yX1_times wsX1_times ({ frames := 2, cells := 0, slots := 0, locals := 48 }) (va_Pc [.ref o, .int i0, .int i1] (ny_pre D [(cI, .int), (cZ, .boolean)] [(o, .inr (3, [.ref q1, .ref q2, .ref q3, .ref q4])), (q1, .inl (cI, 12, .inl hf)), (q2, .inl (cZ, 12, .inl bf))] sz)) (vp_Si (fun r => r = f_nr (hf i0.toNatClampNeg) (hf i1.toNatClampNeg))) 0 0 (fun _ => False) := by
  refine Met.ofW (cc := cX1_times) (maxL := 3) (ret := (some .int)) (by decide) rfl ?_
  intro p e s m args below meth c s₁ B hml hv
  obtain ⟨rfl, hsz, hP, hK, hD0, hE⟩ := hv
  have hx := B.exec
  have hb := B.bytes
  have hr := B.returns
  have hts := atoms_spec (ws := wsX1_times) B.pre
  have hown : s.vm.findClass RX1 = some m.cls := findClass_of_methodNamed B.named
  have hlocks := B.notSynchronized
  subst hsz
  have hD := hD0.self (sz := s.heap.size)
  generalize hAe : va_A [(o, .inr (3, [.ref q1, .ref q2, .ref q3, .ref q4])), (q1, .inl (cI, 12, .inl hf)), (q2, .inl (cZ, 12, .inl bf))] s.heap.size = A at hD hE
  have hA : ∀ q : Nat, s.heap.size ≤ q → A q := fun q h => by rw [← hAe]; exact Or.inr h
  have hS : va_S A s.heap s.heap [] := va_S.rf
  have hl := lv_entry ([.ref o, .int i0, .int i1]) (n := 3) (Nat.le_of_ble_eq_true rfl)
  rw [lg_entry_eq]
  generalize (lg_sl ([.ref o, .int i0, .int i1]) ++ List.replicate (3 - (lg_sl ([.ref o, .int i0, .int i1])).length) Slot.unset).toArray = ls at hl ⊢
  have hl : lv_has ls 3 [(0, .ref o), (1, .int i0), (2, .int i1)] := hl
  refine lv_aload_n hx hb dX1_times_0 rfl (lv_at hl 0 rfl) ?_
  refine lv_iload_n hx hb dX1_times_1 rfl (lv_at hl 1 rfl) ?_
  refine lv_iload_n hx hb dX1_times_2 rfl (lv_at hl 2 rfl) ?_
  refine va_csv (va_Run.run (va_runV (As := [.int i0, .int i1]) (rest := []) ⟨hx, hb, hml, hown, hts⟩ (c_X1_needDivision l D cI cZ o q1 q2 q3 q4 s.heap.size hf bf i0 i1 (by assumption) (by assumption) (by assumption)) (cwV 2 hts gX1_times_X1_needDivision rfl rfl rfl (by decide +kernel) ⟨Nat.le_of_ble_eq_true rfl, Nat.le_of_ble_eq_true rfl⟩) ⟨ny_blind, va_recv hK hP (ci := 3) (q0 := 0) rfl rfl, fun U hU hW => ⟨rfl, ny_preU hE hP hK hD hS hA [0, 1, 2] rfl (by decide) rfl [0, 1] rfl U hU hW⟩⟩ rfl rfl hl.1 rfl (lv_room (Nat.le_of_ble_eq_true rfl)) dX1_times_3 ⟨Nat.le_of_ble_eq_true rfl, Nat.le_of_ble_eq_true rfl⟩)) (fun hw => ?_)
  refine lv_aload_n hx hb dX1_times_6 rfl (lv_at hl 0 rfl) ?_
  refine va_get (D := D) (ci := 3) (v := .ref q1) (C := RX1) (T := TX1) (N := 4) hx hb hts in_X1_times_X1 hown hK hP 0 rfl rfl 0 (by decide) (hts (.fieldLink RX1 9 "Nearestclock" "held" "[I") (List.mem_of_getElem? (i := 1) rfl)) (fun _ h9 => h9) rfl dX1_times_7 ?_
  refine lv_iload_n hx hb dX1_times_10 rfl (lv_at hl 1 rfl) ?_
  refine va_iald hx hb hK hP 1 0 rfl rfl (by assumption) dX1_times_11 ?_
  refine lv_aload_n hx hb dX1_times_12 rfl (lv_at hl 0 rfl) ?_
  refine va_get (D := D) (ci := 3) (v := .ref q1) (C := RX1) (T := TX1) (N := 4) hx hb hts in_X1_times_X1 hown hK hP 0 rfl rfl 0 (by decide) (hts (.fieldLink RX1 9 "Nearestclock" "held" "[I") (List.mem_of_getElem? (i := 1) rfl)) (fun _ h9 => h9) rfl dX1_times_13 ?_
  refine lv_iload_n hx hb dX1_times_16 rfl (lv_at hl 2 rfl) ?_
  refine va_iald hx hb hK hP 1 0 rfl rfl (by assumption) dX1_times_17 ?_
  refine vp_callSi (va_Run.run (va_runS (As := [.int (hf i0.toNatClampNeg), .int (hf i1.toNatClampNeg)]) (rest := []) ⟨hx, hb, hml, hown, hts⟩ (c_X1_nearest l (hf i0.toNatClampNeg) (hf i1.toNatClampNeg) (gH _ (n_ix gp0)) (gH _ (n_ix gp1)) (by assumption)) (va_cwS 2 hts gX1_times_X1_nearest rfl rfl rfl (by decide +kernel) ⟨Nat.le_of_ble_eq_true rfl, Nat.le_of_ble_eq_true rfl⟩) ⟨ny_blindT, fun U hU hW => ⟨rfl, trivial⟩⟩ rfl rfl hl.1 rfl (lv_room (Nat.le_of_ble_eq_true rfl)) dX1_times_18 ⟨Nat.le_of_ble_eq_true rfl, Nat.le_of_ble_eq_true rfl⟩)) (fun r_18 hw_18 => ?_)
  have hw_18 : r_18 = f_nr (hf i0.toNatClampNeg) (hf i1.toNatClampNeg) := hw_18
  subst hw_18
  exact W.iret (v := f_nr (hf i0.toNatClampNeg) (hf i1.toNatClampNeg)) hx hb hr (fun t ht hW => ⟨f_nr (hf i0.toNatClampNeg) (hf i1.toNatClampNeg), rfl, (rfl), ht⟩) (fun q hq => absurd hq List.not_mem_nil) dX1_times_21
set_option maxHeartbeats 4000000 in
set_option maxRecDepth 100000 in
theorem c_X1_times_noP (l : Launch) (D : va_G) (cI : ClassId) (cZ : ClassId) (o : Nat) (q1 : Nat) (q2 : Nat) (q3 : Nat) (q4 : Nat) (sz : Nat) (hf : Nat → Int32) (bf : Nat → Int32) (i0 : Int32) (i1 : Int32) (gl : l.stackTraces = false) (gb : ¬ vp_in i0 12 ∨ ¬ vp_in i1 12) : vx_Met l yX1_times wsX1_times ({ frames := 8, cells := 1, slots := 6, locals := 132 }) (va_Pc [.ref o, .int i0, .int i1] (ny_pre D [(cI, .int), (cZ, .boolean)] [(o, .inr (3, [.ref q1, .ref q2, .ref q3, .ref q4])), (q1, .inl (cI, 12, .inl hf)), (q2, .inl (cZ, 12, .inl bf))] sz)) (fun _ _ _ _ => False) (vx_X (fun _ : Unit => True) (fun E' _ _ => E' = ny_IO) (fun _ => False)) 1 6 (va_A [(o, .inr (3, [.ref q1, .ref q2, .ref q3, .ref q4])), (q1, .inl (cI, 12, .inl hf)), (q2, .inl (cZ, 12, .inl bf))] sz) := by
  refine vx_ofW (cc := cX1_times) (maxL := 3) (ret := (some .int)) (by decide) rfl ?_
  intro p e s m args below meth c s₁ B hml ht hv
  obtain ⟨rfl, hsz, hP, hK, hD0, hE⟩ := hv
  have hx := B.exec
  have hb := B.bytes
  have hr := B.returns
  have hts := atoms_spec (ws := wsX1_times) B.pre
  have hown : s.vm.findClass RX1 = some m.cls := findClass_of_methodNamed B.named
  have hlocks := B.notSynchronized
  subst hsz
  have hD := hD0.self (sz := s.heap.size)
  generalize hAe : va_A [(o, .inr (3, [.ref q1, .ref q2, .ref q3, .ref q4])), (q1, .inl (cI, 12, .inl hf)), (q2, .inl (cZ, 12, .inl bf))] s.heap.size = A at hD hE ⊢
  have hA : ∀ q : Nat, s.heap.size ≤ q → A q := fun q h => by rw [← hAe]; exact Or.inr h
  have hS : va_S A s.heap s.heap [] := va_S.rf
  have hl := lv_entry ([.ref o, .int i0, .int i1]) (n := 3) (Nat.le_of_ble_eq_true rfl)
  rw [lg_entry_eq]
  generalize (lg_sl ([.ref o, .int i0, .int i1]) ++ List.replicate (3 - (lg_sl ([.ref o, .int i0, .int i1])).length) Slot.unset).toArray = ls at hl ⊢
  have hl : lv_has ls 3 [(0, .ref o), (1, .int i0), (2, .int i1)] := hl
  refine lv_aload_n hx hb dX1_times_0 rfl (lv_at hl 0 rfl) ?_
  refine lv_iload_n hx hb dX1_times_1 rfl (lv_at hl 1 rfl) ?_
  refine lv_iload_n hx hb dX1_times_2 rfl (lv_at hl 2 rfl) ?_
  exact ny_th hS (va_free (wc := [(o, .inr (3, [.ref q1, .ref q2, .ref q3, .ref q4])), (q1, .inl (cI, 12, .inl hf)), (q2, .inl (cZ, 12, .inl bf))]) hD hS hA [0, 1, 2] rfl) ht hlocks (Nat.le_of_ble_eq_true rfl) (Nat.le_of_ble_eq_true rfl) (vx_runV (As := [.int i0, .int i1]) (rest := []) ⟨hx, hb, hml, hown, hts⟩ (c_X1_needDivision_noP l D cI cZ o q1 q2 q3 q4 s.heap.size hf bf i0 i1 (by assumption) (by assumption)) (cwV 2 hts gX1_times_X1_needDivision rfl rfl rfl (by decide +kernel) ⟨Nat.le_of_ble_eq_true rfl, Nat.le_of_ble_eq_true rfl⟩) ⟨ny_blind, va_recv hK hP (ci := 3) (q0 := 0) rfl rfl, fun U hU hW => ⟨rfl, ny_preU hE hP hK hD hS hA [0, 1, 2] rfl (by decide) rfl [0, 1] rfl U hU hW⟩⟩ rfl rfl hl.1 rfl (lv_room (Nat.le_of_ble_eq_true rfl)) dX1_times_3 ⟨Nat.le_of_ble_eq_true rfl, Nat.le_of_ble_eq_true rfl⟩)
set_option maxHeartbeats 4000000 in
set_option maxRecDepth 100000 in
theorem c_X1_times_no0 (l : Launch) (D : va_G) (cI : ClassId) (cZ : ClassId) (o : Nat) (q1 : Nat) (q2 : Nat) (q3 : Nat) (q4 : Nat) (sz : Nat) (hf : Nat → Int32) (bf : Nat → Int32) (i0 : Int32) (i1 : Int32) (gl : l.stackTraces = false) (gp0 : vp_in i0 12) (gp1 : vp_in i1 12) (g0 : hf i1.toNatClampNeg = 0) : vx_Met l yX1_times wsX1_times ({ frames := 7, cells := 1, slots := 6, locals := 112 }) (va_Pc [.ref o, .int i0, .int i1] (ny_pre D [(cI, .int), (cZ, .boolean)] [(o, .inr (3, [.ref q1, .ref q2, .ref q3, .ref q4])), (q1, .inl (cI, 12, .inl hf)), (q2, .inl (cZ, 12, .inl bf))] sz)) (fun _ _ _ _ => False) (vx_X (fun _ : Unit => True) (fun E' _ _ => E' = ny_AE) (fun _ => False)) 1 6 (va_A [(o, .inr (3, [.ref q1, .ref q2, .ref q3, .ref q4])), (q1, .inl (cI, 12, .inl hf)), (q2, .inl (cZ, 12, .inl bf))] sz) := by
  refine vx_ofW (cc := cX1_times) (maxL := 3) (ret := (some .int)) (by decide) rfl ?_
  intro p e s m args below meth c s₁ B hml ht hv
  obtain ⟨rfl, hsz, hP, hK, hD0, hE⟩ := hv
  have hx := B.exec
  have hb := B.bytes
  have hr := B.returns
  have hts := atoms_spec (ws := wsX1_times) B.pre
  have hown : s.vm.findClass RX1 = some m.cls := findClass_of_methodNamed B.named
  have hlocks := B.notSynchronized
  subst hsz
  have hD := hD0.self (sz := s.heap.size)
  generalize hAe : va_A [(o, .inr (3, [.ref q1, .ref q2, .ref q3, .ref q4])), (q1, .inl (cI, 12, .inl hf)), (q2, .inl (cZ, 12, .inl bf))] s.heap.size = A at hD hE ⊢
  have hA : ∀ q : Nat, s.heap.size ≤ q → A q := fun q h => by rw [← hAe]; exact Or.inr h
  have hS : va_S A s.heap s.heap [] := va_S.rf
  have hl := lv_entry ([.ref o, .int i0, .int i1]) (n := 3) (Nat.le_of_ble_eq_true rfl)
  rw [lg_entry_eq]
  generalize (lg_sl ([.ref o, .int i0, .int i1]) ++ List.replicate (3 - (lg_sl ([.ref o, .int i0, .int i1])).length) Slot.unset).toArray = ls at hl ⊢
  have hl : lv_has ls 3 [(0, .ref o), (1, .int i0), (2, .int i1)] := hl
  refine lv_aload_n hx hb dX1_times_0 rfl (lv_at hl 0 rfl) ?_
  refine lv_iload_n hx hb dX1_times_1 rfl (lv_at hl 1 rfl) ?_
  refine lv_iload_n hx hb dX1_times_2 rfl (lv_at hl 2 rfl) ?_
  exact ny_th hS (va_free (wc := [(o, .inr (3, [.ref q1, .ref q2, .ref q3, .ref q4])), (q1, .inl (cI, 12, .inl hf)), (q2, .inl (cZ, 12, .inl bf))]) hD hS hA [0, 1, 2] rfl) ht hlocks (Nat.le_of_ble_eq_true rfl) (Nat.le_of_ble_eq_true rfl) (vx_runV (As := [.int i0, .int i1]) (rest := []) ⟨hx, hb, hml, hown, hts⟩ (c_X1_needDivision_no0 l D cI cZ o q1 q2 q3 q4 s.heap.size hf bf i0 i1 (by assumption) (by assumption) (by assumption) (by assumption)) (cwV 2 hts gX1_times_X1_needDivision rfl rfl rfl (by decide +kernel) ⟨Nat.le_of_ble_eq_true rfl, Nat.le_of_ble_eq_true rfl⟩) ⟨ny_blind, va_recv hK hP (ci := 3) (q0 := 0) rfl rfl, fun U hU hW => ⟨rfl, ny_preU hE hP hK hD hS hA [0, 1, 2] rfl (by decide) rfl [0, 1] rfl U hU hW⟩⟩ rfl rfl hl.1 rfl (lv_room (Nat.le_of_ble_eq_true rfl)) dX1_times_3 ⟨Nat.le_of_ble_eq_true rfl, Nat.le_of_ble_eq_true rfl⟩)
theorem in_X1_isHalf_X1 : ∀ w ∈ wsX10, w ∈ wsX1_isHalf := (fun _ h => List.mem_cons_of_mem _ (List.mem_append_left _ (List.mem_append_left _ (List.mem_append_left _ (List.mem_append_left _ (List.mem_append_right _ h))))))
set_option maxHeartbeats 4000000 in
set_option maxRecDepth 100000 in
theorem c_X1_isHalf (l : Launch) (D : va_G) (cI : ClassId) (cZ : ClassId) (o : Nat) (q1 : Nat) (q2 : Nat) (q3 : Nat) (q4 : Nat) (sz : Nat) (hf : Nat → Int32) (bf : Nat → Int32) (i0 : Int32) (i1 : Int32) (gp0 : vp_in i0 12) (gp1 : vp_in i1 12) (g0 : ¬ hf i1.toNatClampNeg = 0) (gH : ny_H hf) : Met l yX1_isHalf wsX1_isHalf ({ frames := 3, cells := 0, slots := 0, locals := 69 }) (va_Pc [.ref o, .int i0, .int i1] (ny_pre D [(cI, .int), (cZ, .boolean)] [(o, .inr (3, [.ref q1, .ref q2, .ref q3, .ref q4])), (q1, .inl (cI, 12, .inl hf)), (q2, .inl (cZ, 12, .inl bf))] sz)) (vp_Si (fun r => r = if 2 * ny_ab (f_re (hf i0.toNatClampNeg) (hf i1.toNatClampNeg)) = ny_ab (hf i1.toNatClampNeg) then 1 else 0)) 0 0 (fun _ => False) := by
  refine Met.ofW (cc := cX1_isHalf) (maxL := 3) (ret := (some .boolean)) (by decide) rfl ?_
  intro p e s m args below meth c s₁ B hml hv
  obtain ⟨rfl, hsz, hP, hK, hD0, hE⟩ := hv
  have hx := B.exec
  have hb := B.bytes
  have hr := B.returns
  have hts := atoms_spec (ws := wsX1_isHalf) B.pre
  have hown : s.vm.findClass RX1 = some m.cls := findClass_of_methodNamed B.named
  have hlocks := B.notSynchronized
  subst hsz
  have hD := hD0.self (sz := s.heap.size)
  generalize hAe : va_A [(o, .inr (3, [.ref q1, .ref q2, .ref q3, .ref q4])), (q1, .inl (cI, 12, .inl hf)), (q2, .inl (cZ, 12, .inl bf))] s.heap.size = A at hD hE
  have hA : ∀ q : Nat, s.heap.size ≤ q → A q := fun q h => by rw [← hAe]; exact Or.inr h
  have hS : va_S A s.heap s.heap [] := va_S.rf
  have hl := lv_entry ([.ref o, .int i0, .int i1]) (n := 3) (Nat.le_of_ble_eq_true rfl)
  rw [lg_entry_eq]
  generalize (lg_sl ([.ref o, .int i0, .int i1]) ++ List.replicate (3 - (lg_sl ([.ref o, .int i0, .int i1])).length) Slot.unset).toArray = ls at hl ⊢
  have hl : lv_has ls 3 [(0, .ref o), (1, .int i0), (2, .int i1)] := hl
  refine lv_aload_n hx hb dX1_isHalf_0 rfl (lv_at hl 0 rfl) ?_
  refine lv_iload_n hx hb dX1_isHalf_1 rfl (lv_at hl 1 rfl) ?_
  refine lv_iload_n hx hb dX1_isHalf_2 rfl (lv_at hl 2 rfl) ?_
  refine va_csv (va_Run.run (va_runV (As := [.int i0, .int i1]) (rest := []) ⟨hx, hb, hml, hown, hts⟩ (c_X1_needDivision l D cI cZ o q1 q2 q3 q4 s.heap.size hf bf i0 i1 (by assumption) (by assumption) (by assumption)) (cwV 2 hts gX1_isHalf_X1_needDivision rfl rfl rfl (by decide +kernel) ⟨Nat.le_of_ble_eq_true rfl, Nat.le_of_ble_eq_true rfl⟩) ⟨ny_blind, va_recv hK hP (ci := 3) (q0 := 0) rfl rfl, fun U hU hW => ⟨rfl, ny_preU hE hP hK hD hS hA [0, 1, 2] rfl (by decide) rfl [0, 1] rfl U hU hW⟩⟩ rfl rfl hl.1 rfl (lv_room (Nat.le_of_ble_eq_true rfl)) dX1_isHalf_3 ⟨Nat.le_of_ble_eq_true rfl, Nat.le_of_ble_eq_true rfl⟩)) (fun hw => ?_)
  refine lv_iconst (v := 2) hx hb dX1_isHalf_6 (by decide) ?_
  refine lv_aload_n hx hb dX1_isHalf_7 rfl (lv_at hl 0 rfl) ?_
  refine va_get (D := D) (ci := 3) (v := .ref q1) (C := RX1) (T := TX1) (N := 4) hx hb hts in_X1_isHalf_X1 hown hK hP 0 rfl rfl 0 (by decide) (hts (.fieldLink RX1 9 "Nearestclock" "held" "[I") (List.mem_of_getElem? (i := 1) rfl)) (fun _ h9 => h9) rfl dX1_isHalf_8 ?_
  refine lv_iload_n hx hb dX1_isHalf_11 rfl (lv_at hl 1 rfl) ?_
  refine va_iald hx hb hK hP 1 0 rfl rfl (by assumption) dX1_isHalf_12 ?_
  refine lv_aload_n hx hb dX1_isHalf_13 rfl (lv_at hl 0 rfl) ?_
  refine va_get (D := D) (ci := 3) (v := .ref q1) (C := RX1) (T := TX1) (N := 4) hx hb hts in_X1_isHalf_X1 hown hK hP 0 rfl rfl 0 (by decide) (hts (.fieldLink RX1 9 "Nearestclock" "held" "[I") (List.mem_of_getElem? (i := 1) rfl)) (fun _ h9 => h9) rfl dX1_isHalf_14 ?_
  refine lv_iload_n hx hb dX1_isHalf_17 rfl (lv_at hl 2 rfl) ?_
  refine va_iald hx hb hK hP 1 0 rfl rfl (by assumption) dX1_isHalf_18 ?_
  refine vp_callSi (va_Run.run (va_runS (As := [.int (hf i0.toNatClampNeg), .int (hf i1.toNatClampNeg)]) (rest := [.int 2]) ⟨hx, hb, hml, hown, hts⟩ (c_X1_restOf l (hf i0.toNatClampNeg) (hf i1.toNatClampNeg) (gH _ (n_ix gp0)) (gH _ (n_ix gp1)) (by assumption)) (va_cwS 2 hts gX1_isHalf_X1_restOf rfl rfl rfl (by decide +kernel) ⟨Nat.le_of_ble_eq_true rfl, Nat.le_of_ble_eq_true rfl⟩) ⟨ny_blindT, fun U hU hW => ⟨rfl, trivial⟩⟩ rfl rfl hl.1 rfl (lv_room (Nat.le_of_ble_eq_true rfl)) dX1_isHalf_19 ⟨Nat.le_of_ble_eq_true rfl, Nat.le_of_ble_eq_true rfl⟩)) (fun r_19 hw_19 => ?_)
  have hw_19 : r_19 = f_re (hf i0.toNatClampNeg) (hf i1.toNatClampNeg) := hw_19
  subst hw_19
  refine va_mabs hx hb (hml.trans hl.1.symm) hown (hts (.methodLink RX1 65 Lib.Math.abs.name) (List.mem_of_getElem? (i := 2) rfl)) (hts (.static Lib.Math.abs.name) (List.mem_of_getElem? (i := 3) rfl)) (hts (.initialized "java/lang/Math") (List.mem_of_getElem? (i := 4) rfl)) (hts (.code Lib.Math.abs.name Lib.Math.abs.code 1 (some .int)) (List.mem_of_getElem? (i := 5) rfl)) (Nat.le_of_ble_eq_true rfl) (Nat.le_of_ble_eq_true rfl) (Nat.le_of_ble_eq_true rfl) (Nat.le_of_ble_eq_true rfl) dX1_isHalf_22 ?_
  refine W.eq (g2 := F0 m 25 ls [.int (ny_ab (f_re (hf i0.toNatClampNeg) (hf i1.toNatClampNeg))), .int 2]) rfl ?_
  refine lv_imul hx hb dX1_isHalf_25 ?_
  refine lv_aload_n hx hb dX1_isHalf_26 rfl (lv_at hl 0 rfl) ?_
  refine va_get (D := D) (ci := 3) (v := .ref q1) (C := RX1) (T := TX1) (N := 4) hx hb hts in_X1_isHalf_X1 hown hK hP 0 rfl rfl 0 (by decide) (hts (.fieldLink RX1 9 "Nearestclock" "held" "[I") (List.mem_of_getElem? (i := 1) rfl)) (fun _ h9 => h9) rfl dX1_isHalf_27 ?_
  refine lv_iload_n hx hb dX1_isHalf_30 rfl (lv_at hl 2 rfl) ?_
  refine va_iald hx hb hK hP 1 0 rfl rfl (by assumption) dX1_isHalf_31 ?_
  refine va_mabs hx hb (hml.trans hl.1.symm) hown (hts (.methodLink RX1 65 Lib.Math.abs.name) (List.mem_of_getElem? (i := 2) rfl)) (hts (.static Lib.Math.abs.name) (List.mem_of_getElem? (i := 3) rfl)) (hts (.initialized "java/lang/Math") (List.mem_of_getElem? (i := 4) rfl)) (hts (.code Lib.Math.abs.name Lib.Math.abs.code 1 (some .int)) (List.mem_of_getElem? (i := 5) rfl)) (Nat.le_of_ble_eq_true rfl) (Nat.le_of_ble_eq_true rfl) (Nat.le_of_ble_eq_true rfl) (Nat.le_of_ble_eq_true rfl) dX1_isHalf_32 ?_
  refine W.eq (g2 := F0 m 35 ls [.int (ny_ab (hf i1.toNatClampNeg)), .int (2 * (ny_ab (f_re (hf i0.toNatClampNeg) (hf i1.toNatClampNeg))))]) rfl ?_
  refine lv_icmp_ne (tgt := 42) hx hb dX1_isHalf_35 (by decide) (fun c_35 => ?_) (fun c_35 => ?_)
  · refine lv_iconst (v := 0) hx hb dX1_isHalf_42 (by decide) ?_
    exact W.zret (v := 0) hx hb hr (by decide) (fun t ht hW => ⟨0, rfl, (if_neg c_35).symm, ht⟩) (fun q hq => absurd hq List.not_mem_nil) dX1_isHalf_43
  · refine lv_iconst (v := 1) hx hb dX1_isHalf_38 (by decide) ?_
    refine lv_goto (tgt := 43) hx hb dX1_isHalf_39 (by decide) ?_
    exact W.zret (v := 1) hx hb hr (by decide) (fun t ht hW => ⟨1, rfl, (if_pos c_35).symm, ht⟩) (fun q hq => absurd hq List.not_mem_nil) dX1_isHalf_43
set_option maxHeartbeats 4000000 in
set_option maxRecDepth 100000 in
theorem c_X1_isHalf_noP (l : Launch) (D : va_G) (cI : ClassId) (cZ : ClassId) (o : Nat) (q1 : Nat) (q2 : Nat) (q3 : Nat) (q4 : Nat) (sz : Nat) (hf : Nat → Int32) (bf : Nat → Int32) (i0 : Int32) (i1 : Int32) (gl : l.stackTraces = false) (gb : ¬ vp_in i0 12 ∨ ¬ vp_in i1 12) : vx_Met l yX1_isHalf wsX1_isHalf ({ frames := 8, cells := 1, slots := 6, locals := 132 }) (va_Pc [.ref o, .int i0, .int i1] (ny_pre D [(cI, .int), (cZ, .boolean)] [(o, .inr (3, [.ref q1, .ref q2, .ref q3, .ref q4])), (q1, .inl (cI, 12, .inl hf)), (q2, .inl (cZ, 12, .inl bf))] sz)) (fun _ _ _ _ => False) (vx_X (fun _ : Unit => True) (fun E' _ _ => E' = ny_IO) (fun _ => False)) 1 6 (va_A [(o, .inr (3, [.ref q1, .ref q2, .ref q3, .ref q4])), (q1, .inl (cI, 12, .inl hf)), (q2, .inl (cZ, 12, .inl bf))] sz) := by
  refine vx_ofW (cc := cX1_isHalf) (maxL := 3) (ret := (some .boolean)) (by decide) rfl ?_
  intro p e s m args below meth c s₁ B hml ht hv
  obtain ⟨rfl, hsz, hP, hK, hD0, hE⟩ := hv
  have hx := B.exec
  have hb := B.bytes
  have hr := B.returns
  have hts := atoms_spec (ws := wsX1_isHalf) B.pre
  have hown : s.vm.findClass RX1 = some m.cls := findClass_of_methodNamed B.named
  have hlocks := B.notSynchronized
  subst hsz
  have hD := hD0.self (sz := s.heap.size)
  generalize hAe : va_A [(o, .inr (3, [.ref q1, .ref q2, .ref q3, .ref q4])), (q1, .inl (cI, 12, .inl hf)), (q2, .inl (cZ, 12, .inl bf))] s.heap.size = A at hD hE ⊢
  have hA : ∀ q : Nat, s.heap.size ≤ q → A q := fun q h => by rw [← hAe]; exact Or.inr h
  have hS : va_S A s.heap s.heap [] := va_S.rf
  have hl := lv_entry ([.ref o, .int i0, .int i1]) (n := 3) (Nat.le_of_ble_eq_true rfl)
  rw [lg_entry_eq]
  generalize (lg_sl ([.ref o, .int i0, .int i1]) ++ List.replicate (3 - (lg_sl ([.ref o, .int i0, .int i1])).length) Slot.unset).toArray = ls at hl ⊢
  have hl : lv_has ls 3 [(0, .ref o), (1, .int i0), (2, .int i1)] := hl
  refine lv_aload_n hx hb dX1_isHalf_0 rfl (lv_at hl 0 rfl) ?_
  refine lv_iload_n hx hb dX1_isHalf_1 rfl (lv_at hl 1 rfl) ?_
  refine lv_iload_n hx hb dX1_isHalf_2 rfl (lv_at hl 2 rfl) ?_
  exact ny_th hS (va_free (wc := [(o, .inr (3, [.ref q1, .ref q2, .ref q3, .ref q4])), (q1, .inl (cI, 12, .inl hf)), (q2, .inl (cZ, 12, .inl bf))]) hD hS hA [0, 1, 2] rfl) ht hlocks (Nat.le_of_ble_eq_true rfl) (Nat.le_of_ble_eq_true rfl) (vx_runV (As := [.int i0, .int i1]) (rest := []) ⟨hx, hb, hml, hown, hts⟩ (c_X1_needDivision_noP l D cI cZ o q1 q2 q3 q4 s.heap.size hf bf i0 i1 (by assumption) (by assumption)) (cwV 2 hts gX1_isHalf_X1_needDivision rfl rfl rfl (by decide +kernel) ⟨Nat.le_of_ble_eq_true rfl, Nat.le_of_ble_eq_true rfl⟩) ⟨ny_blind, va_recv hK hP (ci := 3) (q0 := 0) rfl rfl, fun U hU hW => ⟨rfl, ny_preU hE hP hK hD hS hA [0, 1, 2] rfl (by decide) rfl [0, 1] rfl U hU hW⟩⟩ rfl rfl hl.1 rfl (lv_room (Nat.le_of_ble_eq_true rfl)) dX1_isHalf_3 ⟨Nat.le_of_ble_eq_true rfl, Nat.le_of_ble_eq_true rfl⟩)
set_option maxHeartbeats 4000000 in
set_option maxRecDepth 100000 in
theorem c_X1_isHalf_no0 (l : Launch) (D : va_G) (cI : ClassId) (cZ : ClassId) (o : Nat) (q1 : Nat) (q2 : Nat) (q3 : Nat) (q4 : Nat) (sz : Nat) (hf : Nat → Int32) (bf : Nat → Int32) (i0 : Int32) (i1 : Int32) (gl : l.stackTraces = false) (gp0 : vp_in i0 12) (gp1 : vp_in i1 12) (g0 : hf i1.toNatClampNeg = 0) : vx_Met l yX1_isHalf wsX1_isHalf ({ frames := 7, cells := 1, slots := 6, locals := 112 }) (va_Pc [.ref o, .int i0, .int i1] (ny_pre D [(cI, .int), (cZ, .boolean)] [(o, .inr (3, [.ref q1, .ref q2, .ref q3, .ref q4])), (q1, .inl (cI, 12, .inl hf)), (q2, .inl (cZ, 12, .inl bf))] sz)) (fun _ _ _ _ => False) (vx_X (fun _ : Unit => True) (fun E' _ _ => E' = ny_AE) (fun _ => False)) 1 6 (va_A [(o, .inr (3, [.ref q1, .ref q2, .ref q3, .ref q4])), (q1, .inl (cI, 12, .inl hf)), (q2, .inl (cZ, 12, .inl bf))] sz) := by
  refine vx_ofW (cc := cX1_isHalf) (maxL := 3) (ret := (some .boolean)) (by decide) rfl ?_
  intro p e s m args below meth c s₁ B hml ht hv
  obtain ⟨rfl, hsz, hP, hK, hD0, hE⟩ := hv
  have hx := B.exec
  have hb := B.bytes
  have hr := B.returns
  have hts := atoms_spec (ws := wsX1_isHalf) B.pre
  have hown : s.vm.findClass RX1 = some m.cls := findClass_of_methodNamed B.named
  have hlocks := B.notSynchronized
  subst hsz
  have hD := hD0.self (sz := s.heap.size)
  generalize hAe : va_A [(o, .inr (3, [.ref q1, .ref q2, .ref q3, .ref q4])), (q1, .inl (cI, 12, .inl hf)), (q2, .inl (cZ, 12, .inl bf))] s.heap.size = A at hD hE ⊢
  have hA : ∀ q : Nat, s.heap.size ≤ q → A q := fun q h => by rw [← hAe]; exact Or.inr h
  have hS : va_S A s.heap s.heap [] := va_S.rf
  have hl := lv_entry ([.ref o, .int i0, .int i1]) (n := 3) (Nat.le_of_ble_eq_true rfl)
  rw [lg_entry_eq]
  generalize (lg_sl ([.ref o, .int i0, .int i1]) ++ List.replicate (3 - (lg_sl ([.ref o, .int i0, .int i1])).length) Slot.unset).toArray = ls at hl ⊢
  have hl : lv_has ls 3 [(0, .ref o), (1, .int i0), (2, .int i1)] := hl
  refine lv_aload_n hx hb dX1_isHalf_0 rfl (lv_at hl 0 rfl) ?_
  refine lv_iload_n hx hb dX1_isHalf_1 rfl (lv_at hl 1 rfl) ?_
  refine lv_iload_n hx hb dX1_isHalf_2 rfl (lv_at hl 2 rfl) ?_
  exact ny_th hS (va_free (wc := [(o, .inr (3, [.ref q1, .ref q2, .ref q3, .ref q4])), (q1, .inl (cI, 12, .inl hf)), (q2, .inl (cZ, 12, .inl bf))]) hD hS hA [0, 1, 2] rfl) ht hlocks (Nat.le_of_ble_eq_true rfl) (Nat.le_of_ble_eq_true rfl) (vx_runV (As := [.int i0, .int i1]) (rest := []) ⟨hx, hb, hml, hown, hts⟩ (c_X1_needDivision_no0 l D cI cZ o q1 q2 q3 q4 s.heap.size hf bf i0 i1 (by assumption) (by assumption) (by assumption) (by assumption)) (cwV 2 hts gX1_isHalf_X1_needDivision rfl rfl rfl (by decide +kernel) ⟨Nat.le_of_ble_eq_true rfl, Nat.le_of_ble_eq_true rfl⟩) ⟨ny_blind, va_recv hK hP (ci := 3) (q0 := 0) rfl rfl, fun U hU hW => ⟨rfl, ny_preU hE hP hK hD hS hA [0, 1, 2] rfl (by decide) rfl [0, 1] rfl U hU hW⟩⟩ rfl rfl hl.1 rfl (lv_room (Nat.le_of_ble_eq_true rfl)) dX1_isHalf_3 ⟨Nat.le_of_ble_eq_true rfl, Nat.le_of_ble_eq_true rfl⟩)
theorem in_X1_cut_X1 : ∀ w ∈ wsX10, w ∈ wsX1_cut := (fun _ h => List.mem_cons_of_mem _ (List.mem_append_left _ (List.mem_append_left _ (List.mem_append_left _ (List.mem_append_left _ (List.mem_append_right _ h))))))
set_option maxHeartbeats 4000000 in
set_option maxRecDepth 100000 in
theorem c_X1_cut (l : Launch) (D : va_G) (cI : ClassId) (cZ : ClassId) (o : Nat) (q1 : Nat) (q2 : Nat) (q3 : Nat) (q4 : Nat) (sz : Nat) (hf : Nat → Int32) (bf : Nat → Int32) (i0 : Int32) (i1 : Int32) (i2 : Int32) (gp0 : vp_in i0 12) (gp1 : vp_in i1 12) (gp2 : vp_in i2 12) (g0 : ¬ hf i2.toNatClampNeg = 0) (gH : ny_H hf) (gB : ny_BB bf) : Met l yX1_cut wsX1_cut ({ frames := 5, cells := 0, slots := 0, locals := 118 }) (va_Pc [.ref o, .int i0, .int i1, .int i2] (ny_pre D [(cI, .int), (cZ, .boolean)] [(o, .inr (3, [.ref q1, .ref q2, .ref q3, .ref q4])), (q1, .inl (cI, 12, .inl hf)), (q2, .inl (cZ, 12, .inl bf))] sz)) (va_Ql (fun (r : Int64) (u : Unit) => r = f_bt (f_cu (hf i1.toNatClampNeg) (hf i2.toNatClampNeg)) (f_un (hf i1.toNatClampNeg) (bf i1.toNatClampNeg))) (fun (u : Unit) t => ny_at D [(cI, .int), (cZ, .boolean)] (va_A [(o, .inr (3, [.ref q1, .ref q2, .ref q3, .ref q4])), (q1, .inl (cI, 12, .inl hf)), (q2, .inl (cZ, 12, .inl bf))] sz) [(o, .inr (3, [.ref q1, .ref q2, .ref q3, .ref q4])), (q1, .inl (cI, 12, .inl (upd hf i0.toNatClampNeg (f_cu (hf i1.toNatClampNeg) (hf i2.toNatClampNeg))))), (q2, .inl (cZ, 12, .inl (upd bf i0.toNatClampNeg (f_z (f_cu (hf i1.toNatClampNeg) (hf i2.toNatClampNeg)) (f_un (hf i1.toNatClampNeg) (bf i1.toNatClampNeg))))))] t) (va_A [(o, .inr (3, [.ref q1, .ref q2, .ref q3, .ref q4])), (q1, .inl (cI, 12, .inl hf)), (q2, .inl (cZ, 12, .inl bf))] sz)) 0 0 (va_A [(o, .inr (3, [.ref q1, .ref q2, .ref q3, .ref q4])), (q1, .inl (cI, 12, .inl hf)), (q2, .inl (cZ, 12, .inl bf))] sz) := by
  refine Met.ofW (cc := cX1_cut) (maxL := 4) (ret := (some .long)) (by decide) rfl ?_
  intro p e s m args below meth c s₁ B hml hv
  obtain ⟨rfl, hsz, hP, hK, hD0, hE⟩ := hv
  have hx := B.exec
  have hb := B.bytes
  have hr := B.returns
  have hts := atoms_spec (ws := wsX1_cut) B.pre
  have hown : s.vm.findClass RX1 = some m.cls := findClass_of_methodNamed B.named
  have hlocks := B.notSynchronized
  subst hsz
  have hD := hD0.self (sz := s.heap.size)
  generalize hAe : va_A [(o, .inr (3, [.ref q1, .ref q2, .ref q3, .ref q4])), (q1, .inl (cI, 12, .inl hf)), (q2, .inl (cZ, 12, .inl bf))] s.heap.size = A at hD hE ⊢
  have hA : ∀ q : Nat, s.heap.size ≤ q → A q := fun q h => by rw [← hAe]; exact Or.inr h
  have hS : va_S A s.heap s.heap [] := va_S.rf
  have hl := lv_entry ([.ref o, .int i0, .int i1, .int i2]) (n := 4) (Nat.le_of_ble_eq_true rfl)
  rw [lg_entry_eq]
  generalize (lg_sl ([.ref o, .int i0, .int i1, .int i2]) ++ List.replicate (4 - (lg_sl ([.ref o, .int i0, .int i1, .int i2])).length) Slot.unset).toArray = ls at hl ⊢
  have hl : lv_has ls 4 [(0, .ref o), (1, .int i0), (2, .int i1), (3, .int i2)] := hl
  refine lv_iload_n hx hb dX1_cut_0 rfl (lv_at hl 1 rfl) ?_
  refine va_csv (va_Run.run (va_runS (As := [.int i0]) (rest := []) ⟨hx, hb, hml, hown, hts⟩ (c_X1_needPlace l i0 (by assumption)) (va_cwS 1 hts gX1_cut_X1_needPlace rfl rfl rfl (by decide +kernel) ⟨Nat.le_of_ble_eq_true rfl, Nat.le_of_ble_eq_true rfl⟩) ⟨ny_blindT, fun U hU hW => ⟨rfl, trivial⟩⟩ rfl rfl hl.1 rfl (lv_room (Nat.le_of_ble_eq_true rfl)) dX1_cut_1 ⟨Nat.le_of_ble_eq_true rfl, Nat.le_of_ble_eq_true rfl⟩)) (fun hw => ?_)
  refine lv_aload_n hx hb dX1_cut_4 rfl (lv_at hl 0 rfl) ?_
  refine lv_iload_n hx hb dX1_cut_5 rfl (lv_at hl 2 rfl) ?_
  refine lv_iload_n hx hb dX1_cut_6 rfl (lv_at hl 3 rfl) ?_
  refine va_csv (va_Run.run (va_runV (As := [.int i1, .int i2]) (rest := []) ⟨hx, hb, hml, hown, hts⟩ (c_X1_needDivision l D cI cZ o q1 q2 q3 q4 s.heap.size hf bf i1 i2 (by assumption) (by assumption) (by assumption)) (cwV 2 hts gX1_cut_X1_needDivision rfl rfl rfl (by decide +kernel) ⟨Nat.le_of_ble_eq_true rfl, Nat.le_of_ble_eq_true rfl⟩) ⟨ny_blind, va_recv hK hP (ci := 3) (q0 := 0) rfl rfl, fun U hU hW => ⟨rfl, ny_preU hE hP hK hD hS hA [0, 1, 2] rfl (by decide) rfl [0, 1] rfl U hU hW⟩⟩ rfl rfl hl.1 rfl (lv_room (Nat.le_of_ble_eq_true rfl)) dX1_cut_7 ⟨Nat.le_of_ble_eq_true rfl, Nat.le_of_ble_eq_true rfl⟩)) (fun hw => ?_)
  refine lv_aload_n hx hb dX1_cut_10 rfl (lv_at hl 0 rfl) ?_
  refine lv_iload_n hx hb dX1_cut_11 rfl (lv_at hl 1 rfl) ?_
  refine lv_aload_n hx hb dX1_cut_12 rfl (lv_at hl 0 rfl) ?_
  refine va_get (D := D) (ci := 3) (v := .ref q1) (C := RX1) (T := TX1) (N := 4) hx hb hts in_X1_cut_X1 hown hK hP 0 rfl rfl 0 (by decide) (hts (.fieldLink RX1 9 "Nearestclock" "held" "[I") (List.mem_of_getElem? (i := 1) rfl)) (fun _ h9 => h9) rfl dX1_cut_13 ?_
  refine lv_iload_n hx hb dX1_cut_16 rfl (lv_at hl 2 rfl) ?_
  refine va_iald hx hb hK hP 1 0 rfl rfl (by assumption) dX1_cut_17 ?_
  refine lv_aload_n hx hb dX1_cut_18 rfl (lv_at hl 0 rfl) ?_
  refine va_get (D := D) (ci := 3) (v := .ref q1) (C := RX1) (T := TX1) (N := 4) hx hb hts in_X1_cut_X1 hown hK hP 0 rfl rfl 0 (by decide) (hts (.fieldLink RX1 9 "Nearestclock" "held" "[I") (List.mem_of_getElem? (i := 1) rfl)) (fun _ h9 => h9) rfl dX1_cut_19 ?_
  refine lv_iload_n hx hb dX1_cut_22 rfl (lv_at hl 3 rfl) ?_
  refine va_iald hx hb hK hP 1 0 rfl rfl (by assumption) dX1_cut_23 ?_
  refine vp_callSi (va_Run.run (va_runS (As := [.int (hf i1.toNatClampNeg), .int (hf i2.toNatClampNeg)]) (rest := [.int i0, .ref o]) ⟨hx, hb, hml, hown, hts⟩ (c_X1_cutOf l (hf i1.toNatClampNeg) (hf i2.toNatClampNeg) (by assumption)) (va_cwS 2 hts gX1_cut_X1_cutOf rfl rfl rfl (by decide +kernel) ⟨Nat.le_of_ble_eq_true rfl, Nat.le_of_ble_eq_true rfl⟩) ⟨ny_blindT, fun U hU hW => ⟨rfl, trivial⟩⟩ rfl rfl hl.1 rfl (lv_room (Nat.le_of_ble_eq_true rfl)) dX1_cut_24 ⟨Nat.le_of_ble_eq_true rfl, Nat.le_of_ble_eq_true rfl⟩)) (fun r_24 hw_24 => ?_)
  have hw_24 : r_24 = f_cu (hf i1.toNatClampNeg) (hf i2.toNatClampNeg) := hw_24
  subst hw_24
  refine lv_iload_n hx hb dX1_cut_27 rfl (lv_at hl 2 rfl) ?_
  refine ny_l (wc := [(o, .inr (3, [.ref q1, .ref q2, .ref q3, .ref q4])), (q1, .inl (cI, 12, .inl hf)), (q2, .inl (cZ, 12, .inl bf))]) (wr := []) hP hD hS hA [0, 1, 2] [] rfl rfl (by decide) (by decide) (va_runV (As := [.int i0, .int (f_cu (hf i1.toNatClampNeg) (hf i2.toNatClampNeg)), .int i1]) (rest := []) ⟨hx, hb, hml, hown, hts⟩ (c_X1_keepSigned l D cI cZ o q1 q2 q3 q4 s.heap.size hf bf i0 (f_cu (hf i1.toNatClampNeg) (hf i2.toNatClampNeg)) i1 (by assumption) (by assumption) (n_R_cu (gH _ (n_ix gp1))) (gB _ (n_ix gp1))) (cwV 3 hts gX1_cut_X1_keepSigned rfl rfl rfl (by decide +kernel) ⟨Nat.le_of_ble_eq_true rfl, Nat.le_of_ble_eq_true rfl⟩) ⟨ny_blind, va_recv hK hP (ci := 3) (q0 := 0) rfl rfl, fun U hU hW => ⟨rfl, ny_preU hE hP hK hD hS hA [0, 1, 2] rfl (by decide) rfl [0, 1] rfl U hU hW⟩⟩ rfl rfl hl.1 rfl (lv_room (Nat.le_of_ble_eq_true rfl)) dX1_cut_28 ⟨Nat.le_of_ble_eq_true rfl, Nat.le_of_ble_eq_true rfl⟩) (fun r_28 u H locs hw_28 hP hD hS => ?_)
  have hP : va_P D vwCl [(o, .inr (3, [.ref q1, .ref q2, .ref q3, .ref q4])), (q1, .inl (cI, 12, .inl (upd hf i0.toNatClampNeg (f_cu (hf i1.toNatClampNeg) (hf i2.toNatClampNeg))))), (q2, .inl (cZ, 12, .inl (upd bf i0.toNatClampNeg (f_z (f_cu (hf i1.toNatClampNeg) (hf i2.toNatClampNeg)) (f_un (hf i1.toNatClampNeg) (bf i1.toNatClampNeg))))))] H := hP
  have hD : va_D A [(o, .inr (3, [.ref q1, .ref q2, .ref q3, .ref q4])), (q1, .inl (cI, 12, .inl (upd hf i0.toNatClampNeg (f_cu (hf i1.toNatClampNeg) (hf i2.toNatClampNeg))))), (q2, .inl (cZ, 12, .inl (upd bf i0.toNatClampNeg (f_z (f_cu (hf i1.toNatClampNeg) (hf i2.toNatClampNeg)) (f_un (hf i1.toNatClampNeg) (bf i1.toNatClampNeg))))))] := hD
  have hw_28 : r_28 = f_bt (f_cu (hf i1.toNatClampNeg) (hf i2.toNatClampNeg)) (f_un (hf i1.toNatClampNeg) (bf i1.toNatClampNeg)) := hw_28
  subst hw_28
  have hP9 := hP.sub (ws' := [(o, .inr (3, [.ref q1, .ref q2, .ref q3, .ref q4])), (q1, .inl (cI, 12, .inl (upd hf i0.toNatClampNeg (f_cu (hf i1.toNatClampNeg) (hf i2.toNatClampNeg))))), (q2, .inl (cZ, 12, .inl (upd bf i0.toNatClampNeg (f_z (f_cu (hf i1.toNatClampNeg) (hf i2.toNatClampNeg)) (f_un (hf i1.toNatClampNeg) (bf i1.toNatClampNeg))))))]) [0, 1, 2] rfl
  have hD9 := hD.sub (ws' := [(o, .inr (3, [.ref q1, .ref q2, .ref q3, .ref q4])), (q1, .inl (cI, 12, .inl (upd hf i0.toNatClampNeg (f_cu (hf i1.toNatClampNeg) (hf i2.toNatClampNeg))))), (q2, .inl (cZ, 12, .inl (upd bf i0.toNatClampNeg (f_z (f_cu (hf i1.toNatClampNeg) (hf i2.toNatClampNeg)) (f_un (hf i1.toNatClampNeg) (bf i1.toNatClampNeg))))))]) [0, 1, 2] (by decide) rfl
  exact W.lret (v := f_bt (f_cu (hf i1.toNatClampNeg) (hf i2.toNatClampNeg)) (f_un (hf i1.toNatClampNeg) (bf i1.toNatClampNeg))) hx hb hr (fun t ht hW => ⟨⟨f_bt (f_cu (hf i1.toNatClampNeg) (hf i2.toNatClampNeg)) (f_un (hf i1.toNatClampNeg) (bf i1.toNatClampNeg)), (), rfl, (rfl), by rw [ht]; exact hP9, va_K.moved hW.alike hK, hD9⟩, hS.F ht⟩) hS.2.2 dX1_cut_31
set_option maxHeartbeats 4000000 in
set_option maxRecDepth 100000 in
theorem c_X1_cut_noP (l : Launch) (D : va_G) (cI : ClassId) (cZ : ClassId) (o : Nat) (q1 : Nat) (q2 : Nat) (q3 : Nat) (q4 : Nat) (sz : Nat) (hf : Nat → Int32) (bf : Nat → Int32) (i0 : Int32) (i1 : Int32) (i2 : Int32) (gl : l.stackTraces = false) (gb : ¬ vp_in i0 12 ∨ (¬ vp_in i1 12 ∨ ¬ vp_in i2 12)) : vx_Met l yX1_cut wsX1_cut ({ frames := 8, cells := 1, slots := 6, locals := 132 }) (va_Pc [.ref o, .int i0, .int i1, .int i2] (ny_pre D [(cI, .int), (cZ, .boolean)] [(o, .inr (3, [.ref q1, .ref q2, .ref q3, .ref q4])), (q1, .inl (cI, 12, .inl hf)), (q2, .inl (cZ, 12, .inl bf))] sz)) (fun _ _ _ _ => False) (vx_X (fun _ : Unit => True) (fun E' _ _ => E' = ny_IO) (fun _ => False)) 1 6 (va_A [(o, .inr (3, [.ref q1, .ref q2, .ref q3, .ref q4])), (q1, .inl (cI, 12, .inl hf)), (q2, .inl (cZ, 12, .inl bf))] sz) := by
  refine vx_ofW (cc := cX1_cut) (maxL := 4) (ret := (some .long)) (by decide) rfl ?_
  intro p e s m args below meth c s₁ B hml ht hv
  obtain ⟨rfl, hsz, hP, hK, hD0, hE⟩ := hv
  have hx := B.exec
  have hb := B.bytes
  have hr := B.returns
  have hts := atoms_spec (ws := wsX1_cut) B.pre
  have hown : s.vm.findClass RX1 = some m.cls := findClass_of_methodNamed B.named
  have hlocks := B.notSynchronized
  subst hsz
  have hD := hD0.self (sz := s.heap.size)
  generalize hAe : va_A [(o, .inr (3, [.ref q1, .ref q2, .ref q3, .ref q4])), (q1, .inl (cI, 12, .inl hf)), (q2, .inl (cZ, 12, .inl bf))] s.heap.size = A at hD hE ⊢
  have hA : ∀ q : Nat, s.heap.size ≤ q → A q := fun q h => by rw [← hAe]; exact Or.inr h
  have hS : va_S A s.heap s.heap [] := va_S.rf
  have hl := lv_entry ([.ref o, .int i0, .int i1, .int i2]) (n := 4) (Nat.le_of_ble_eq_true rfl)
  rw [lg_entry_eq]
  generalize (lg_sl ([.ref o, .int i0, .int i1, .int i2]) ++ List.replicate (4 - (lg_sl ([.ref o, .int i0, .int i1, .int i2])).length) Slot.unset).toArray = ls at hl ⊢
  have hl : lv_has ls 4 [(0, .ref o), (1, .int i0), (2, .int i1), (3, .int i2)] := hl
  refine lv_iload_n hx hb dX1_cut_0 rfl (lv_at hl 1 rfl) ?_
  by_cases q_1 : vp_in i0 12
  · have gb := gb.resolve_left (fun h => h q_1)
    refine va_csv (va_Run.run (va_runS (As := [.int i0]) (rest := []) ⟨hx, hb, hml, hown, hts⟩ (c_X1_needPlace l i0 (by assumption)) (va_cwS 1 hts gX1_cut_X1_needPlace rfl rfl rfl (by decide +kernel) ⟨Nat.le_of_ble_eq_true rfl, Nat.le_of_ble_eq_true rfl⟩) ⟨ny_blindT, fun U hU hW => ⟨rfl, trivial⟩⟩ rfl rfl hl.1 rfl (lv_room (Nat.le_of_ble_eq_true rfl)) dX1_cut_1 ⟨Nat.le_of_ble_eq_true rfl, Nat.le_of_ble_eq_true rfl⟩)) (fun hw => ?_)
    refine lv_aload_n hx hb dX1_cut_4 rfl (lv_at hl 0 rfl) ?_
    refine lv_iload_n hx hb dX1_cut_5 rfl (lv_at hl 2 rfl) ?_
    refine lv_iload_n hx hb dX1_cut_6 rfl (lv_at hl 3 rfl) ?_
    exact ny_th hS (va_free (wc := [(o, .inr (3, [.ref q1, .ref q2, .ref q3, .ref q4])), (q1, .inl (cI, 12, .inl hf)), (q2, .inl (cZ, 12, .inl bf))]) hD hS hA [0, 1, 2] rfl) ht hlocks (Nat.le_of_ble_eq_true rfl) (Nat.le_of_ble_eq_true rfl) (vx_runV (As := [.int i1, .int i2]) (rest := []) ⟨hx, hb, hml, hown, hts⟩ (c_X1_needDivision_noP l D cI cZ o q1 q2 q3 q4 s.heap.size hf bf i1 i2 (by assumption) (by assumption)) (cwV 2 hts gX1_cut_X1_needDivision rfl rfl rfl (by decide +kernel) ⟨Nat.le_of_ble_eq_true rfl, Nat.le_of_ble_eq_true rfl⟩) ⟨ny_blind, va_recv hK hP (ci := 3) (q0 := 0) rfl rfl, fun U hU hW => ⟨rfl, ny_preU hE hP hK hD hS hA [0, 1, 2] rfl (by decide) rfl [0, 1] rfl U hU hW⟩⟩ rfl rfl hl.1 rfl (lv_room (Nat.le_of_ble_eq_true rfl)) dX1_cut_7 ⟨Nat.le_of_ble_eq_true rfl, Nat.le_of_ble_eq_true rfl⟩)
  · exact ny_th hS (va_free (wc := []) hD hS hA [] rfl) ht hlocks (Nat.le_of_ble_eq_true rfl) (Nat.le_of_ble_eq_true rfl) (vx_runS (As := [.int i0]) (rest := []) ⟨hx, hb, hml, hown, hts⟩ (c_X1_needPlace_no l D s.heap.size i0 (by assumption) (by assumption)) (va_cwS 1 hts gX1_cut_X1_needPlace rfl rfl rfl (by decide +kernel) ⟨Nat.le_of_ble_eq_true rfl, Nat.le_of_ble_eq_true rfl⟩) ⟨ny_blind, fun U hU hW => ⟨rfl, ny_preU hE hP hK hD hS hA [] rfl (by decide) rfl [] rfl U hU hW⟩⟩ rfl rfl hl.1 rfl (lv_room (Nat.le_of_ble_eq_true rfl)) dX1_cut_1 ⟨Nat.le_of_ble_eq_true rfl, Nat.le_of_ble_eq_true rfl⟩)
set_option maxHeartbeats 4000000 in
set_option maxRecDepth 100000 in
theorem c_X1_cut_no0 (l : Launch) (D : va_G) (cI : ClassId) (cZ : ClassId) (o : Nat) (q1 : Nat) (q2 : Nat) (q3 : Nat) (q4 : Nat) (sz : Nat) (hf : Nat → Int32) (bf : Nat → Int32) (i0 : Int32) (i1 : Int32) (i2 : Int32) (gl : l.stackTraces = false) (gp0 : vp_in i0 12) (gp1 : vp_in i1 12) (gp2 : vp_in i2 12) (g0 : hf i2.toNatClampNeg = 0) : vx_Met l yX1_cut wsX1_cut ({ frames := 7, cells := 1, slots := 6, locals := 112 }) (va_Pc [.ref o, .int i0, .int i1, .int i2] (ny_pre D [(cI, .int), (cZ, .boolean)] [(o, .inr (3, [.ref q1, .ref q2, .ref q3, .ref q4])), (q1, .inl (cI, 12, .inl hf)), (q2, .inl (cZ, 12, .inl bf))] sz)) (fun _ _ _ _ => False) (vx_X (fun _ : Unit => True) (fun E' _ _ => E' = ny_AE) (fun _ => False)) 1 6 (va_A [(o, .inr (3, [.ref q1, .ref q2, .ref q3, .ref q4])), (q1, .inl (cI, 12, .inl hf)), (q2, .inl (cZ, 12, .inl bf))] sz) := by
  refine vx_ofW (cc := cX1_cut) (maxL := 4) (ret := (some .long)) (by decide) rfl ?_
  intro p e s m args below meth c s₁ B hml ht hv
  obtain ⟨rfl, hsz, hP, hK, hD0, hE⟩ := hv
  have hx := B.exec
  have hb := B.bytes
  have hr := B.returns
  have hts := atoms_spec (ws := wsX1_cut) B.pre
  have hown : s.vm.findClass RX1 = some m.cls := findClass_of_methodNamed B.named
  have hlocks := B.notSynchronized
  subst hsz
  have hD := hD0.self (sz := s.heap.size)
  generalize hAe : va_A [(o, .inr (3, [.ref q1, .ref q2, .ref q3, .ref q4])), (q1, .inl (cI, 12, .inl hf)), (q2, .inl (cZ, 12, .inl bf))] s.heap.size = A at hD hE ⊢
  have hA : ∀ q : Nat, s.heap.size ≤ q → A q := fun q h => by rw [← hAe]; exact Or.inr h
  have hS : va_S A s.heap s.heap [] := va_S.rf
  have hl := lv_entry ([.ref o, .int i0, .int i1, .int i2]) (n := 4) (Nat.le_of_ble_eq_true rfl)
  rw [lg_entry_eq]
  generalize (lg_sl ([.ref o, .int i0, .int i1, .int i2]) ++ List.replicate (4 - (lg_sl ([.ref o, .int i0, .int i1, .int i2])).length) Slot.unset).toArray = ls at hl ⊢
  have hl : lv_has ls 4 [(0, .ref o), (1, .int i0), (2, .int i1), (3, .int i2)] := hl
  refine lv_iload_n hx hb dX1_cut_0 rfl (lv_at hl 1 rfl) ?_
  refine va_csv (va_Run.run (va_runS (As := [.int i0]) (rest := []) ⟨hx, hb, hml, hown, hts⟩ (c_X1_needPlace l i0 (by assumption)) (va_cwS 1 hts gX1_cut_X1_needPlace rfl rfl rfl (by decide +kernel) ⟨Nat.le_of_ble_eq_true rfl, Nat.le_of_ble_eq_true rfl⟩) ⟨ny_blindT, fun U hU hW => ⟨rfl, trivial⟩⟩ rfl rfl hl.1 rfl (lv_room (Nat.le_of_ble_eq_true rfl)) dX1_cut_1 ⟨Nat.le_of_ble_eq_true rfl, Nat.le_of_ble_eq_true rfl⟩)) (fun hw => ?_)
  refine lv_aload_n hx hb dX1_cut_4 rfl (lv_at hl 0 rfl) ?_
  refine lv_iload_n hx hb dX1_cut_5 rfl (lv_at hl 2 rfl) ?_
  refine lv_iload_n hx hb dX1_cut_6 rfl (lv_at hl 3 rfl) ?_
  exact ny_th hS (va_free (wc := [(o, .inr (3, [.ref q1, .ref q2, .ref q3, .ref q4])), (q1, .inl (cI, 12, .inl hf)), (q2, .inl (cZ, 12, .inl bf))]) hD hS hA [0, 1, 2] rfl) ht hlocks (Nat.le_of_ble_eq_true rfl) (Nat.le_of_ble_eq_true rfl) (vx_runV (As := [.int i1, .int i2]) (rest := []) ⟨hx, hb, hml, hown, hts⟩ (c_X1_needDivision_no0 l D cI cZ o q1 q2 q3 q4 s.heap.size hf bf i1 i2 (by assumption) (by assumption) (by assumption) (by assumption)) (cwV 2 hts gX1_cut_X1_needDivision rfl rfl rfl (by decide +kernel) ⟨Nat.le_of_ble_eq_true rfl, Nat.le_of_ble_eq_true rfl⟩) ⟨ny_blind, va_recv hK hP (ci := 3) (q0 := 0) rfl rfl, fun U hU hW => ⟨rfl, ny_preU hE hP hK hD hS hA [0, 1, 2] rfl (by decide) rfl [0, 1] rfl U hU hW⟩⟩ rfl rfl hl.1 rfl (lv_room (Nat.le_of_ble_eq_true rfl)) dX1_cut_7 ⟨Nat.le_of_ble_eq_true rfl, Nat.le_of_ble_eq_true rfl⟩)
theorem in_X1_apart_X1 : ∀ w ∈ wsX10, w ∈ wsX1_apart := (fun _ h => List.mem_cons_of_mem _ (List.mem_append_left _ (List.mem_append_left _ (List.mem_append_left _ (List.mem_append_left _ (List.mem_append_right _ h))))))
set_option maxHeartbeats 4000000 in
set_option maxRecDepth 100000 in
theorem c_X1_apart (l : Launch) (D : va_G) (cI : ClassId) (cZ : ClassId) (o : Nat) (q1 : Nat) (q2 : Nat) (q3 : Nat) (q4 : Nat) (sz : Nat) (hf : Nat → Int32) (bf : Nat → Int32) (i0 : Int32) (i1 : Int32) (gp0 : vp_in i0 12) (gp1 : vp_in i1 12) (g0 : ¬ hf i1.toNatClampNeg = 0) (gH : ny_H hf) : Met l yX1_apart wsX1_apart ({ frames := 3, cells := 0, slots := 0, locals := 69 }) (va_Pc [.ref o, .int i0, .int i1] (ny_pre D [(cI, .int), (cZ, .boolean)] [(o, .inr (3, [.ref q1, .ref q2, .ref q3, .ref q4])), (q1, .inl (cI, 12, .inl hf)), (q2, .inl (cZ, 12, .inl bf))] sz)) (vp_Si (fun r => r = if (f_re (hf i0.toNatClampNeg) (hf i1.toNatClampNeg)) - (f_cu (hf i0.toNatClampNeg) (hf i1.toNatClampNeg)) < 0 then -1 else if (f_re (hf i0.toNatClampNeg) (hf i1.toNatClampNeg)) - (f_cu (hf i0.toNatClampNeg) (hf i1.toNatClampNeg)) = 0 then 0 else 1)) 0 0 (fun _ => False) := by
  refine Met.ofW (cc := cX1_apart) (maxL := 4) (ret := (some .int)) (by decide) rfl ?_
  intro p e s m args below meth c s₁ B hml hv
  obtain ⟨rfl, hsz, hP, hK, hD0, hE⟩ := hv
  have hx := B.exec
  have hb := B.bytes
  have hr := B.returns
  have hts := atoms_spec (ws := wsX1_apart) B.pre
  have hown : s.vm.findClass RX1 = some m.cls := findClass_of_methodNamed B.named
  have hlocks := B.notSynchronized
  subst hsz
  have hD := hD0.self (sz := s.heap.size)
  generalize hAe : va_A [(o, .inr (3, [.ref q1, .ref q2, .ref q3, .ref q4])), (q1, .inl (cI, 12, .inl hf)), (q2, .inl (cZ, 12, .inl bf))] s.heap.size = A at hD hE
  have hA : ∀ q : Nat, s.heap.size ≤ q → A q := fun q h => by rw [← hAe]; exact Or.inr h
  have hS : va_S A s.heap s.heap [] := va_S.rf
  have hl := lv_entry ([.ref o, .int i0, .int i1]) (n := 4) (Nat.le_of_ble_eq_true rfl)
  rw [lg_entry_eq]
  generalize (lg_sl ([.ref o, .int i0, .int i1]) ++ List.replicate (4 - (lg_sl ([.ref o, .int i0, .int i1])).length) Slot.unset).toArray = ls at hl ⊢
  have hl : lv_has ls 4 [(0, .ref o), (1, .int i0), (2, .int i1)] := hl
  refine lv_aload_n hx hb dX1_apart_0 rfl (lv_at hl 0 rfl) ?_
  refine lv_iload_n hx hb dX1_apart_1 rfl (lv_at hl 1 rfl) ?_
  refine lv_iload_n hx hb dX1_apart_2 rfl (lv_at hl 2 rfl) ?_
  refine va_csv (va_Run.run (va_runV (As := [.int i0, .int i1]) (rest := []) ⟨hx, hb, hml, hown, hts⟩ (c_X1_needDivision l D cI cZ o q1 q2 q3 q4 s.heap.size hf bf i0 i1 (by assumption) (by assumption) (by assumption)) (cwV 2 hts gX1_apart_X1_needDivision rfl rfl rfl (by decide +kernel) ⟨Nat.le_of_ble_eq_true rfl, Nat.le_of_ble_eq_true rfl⟩) ⟨ny_blind, va_recv hK hP (ci := 3) (q0 := 0) rfl rfl, fun U hU hW => ⟨rfl, ny_preU hE hP hK hD hS hA [0, 1, 2] rfl (by decide) rfl [0, 1] rfl U hU hW⟩⟩ rfl rfl hl.1 rfl (lv_room (Nat.le_of_ble_eq_true rfl)) dX1_apart_3 ⟨Nat.le_of_ble_eq_true rfl, Nat.le_of_ble_eq_true rfl⟩)) (fun hw => ?_)
  refine lv_aload_n hx hb dX1_apart_6 rfl (lv_at hl 0 rfl) ?_
  refine va_get (D := D) (ci := 3) (v := .ref q1) (C := RX1) (T := TX1) (N := 4) hx hb hts in_X1_apart_X1 hown hK hP 0 rfl rfl 0 (by decide) (hts (.fieldLink RX1 9 "Nearestclock" "held" "[I") (List.mem_of_getElem? (i := 1) rfl)) (fun _ h9 => h9) rfl dX1_apart_7 ?_
  refine lv_iload_n hx hb dX1_apart_10 rfl (lv_at hl 1 rfl) ?_
  refine va_iald hx hb hK hP 1 0 rfl rfl (by assumption) dX1_apart_11 ?_
  refine lv_aload_n hx hb dX1_apart_12 rfl (lv_at hl 0 rfl) ?_
  refine va_get (D := D) (ci := 3) (v := .ref q1) (C := RX1) (T := TX1) (N := 4) hx hb hts in_X1_apart_X1 hown hK hP 0 rfl rfl 0 (by decide) (hts (.fieldLink RX1 9 "Nearestclock" "held" "[I") (List.mem_of_getElem? (i := 1) rfl)) (fun _ h9 => h9) rfl dX1_apart_13 ?_
  refine lv_iload_n hx hb dX1_apart_16 rfl (lv_at hl 2 rfl) ?_
  refine va_iald hx hb hK hP 1 0 rfl rfl (by assumption) dX1_apart_17 ?_
  refine vp_callSi (va_Run.run (va_runS (As := [.int (hf i0.toNatClampNeg), .int (hf i1.toNatClampNeg)]) (rest := []) ⟨hx, hb, hml, hown, hts⟩ (c_X1_restOf l (hf i0.toNatClampNeg) (hf i1.toNatClampNeg) (gH _ (n_ix gp0)) (gH _ (n_ix gp1)) (by assumption)) (va_cwS 2 hts gX1_apart_X1_restOf rfl rfl rfl (by decide +kernel) ⟨Nat.le_of_ble_eq_true rfl, Nat.le_of_ble_eq_true rfl⟩) ⟨ny_blindT, fun U hU hW => ⟨rfl, trivial⟩⟩ rfl rfl hl.1 rfl (lv_room (Nat.le_of_ble_eq_true rfl)) dX1_apart_18 ⟨Nat.le_of_ble_eq_true rfl, Nat.le_of_ble_eq_true rfl⟩)) (fun r_18 hw_18 => ?_)
  have hw_18 : r_18 = f_re (hf i0.toNatClampNeg) (hf i1.toNatClampNeg) := hw_18
  subst hw_18
  refine lv_aload_n hx hb dX1_apart_21 rfl (lv_at hl 0 rfl) ?_
  refine va_get (D := D) (ci := 3) (v := .ref q1) (C := RX1) (T := TX1) (N := 4) hx hb hts in_X1_apart_X1 hown hK hP 0 rfl rfl 0 (by decide) (hts (.fieldLink RX1 9 "Nearestclock" "held" "[I") (List.mem_of_getElem? (i := 1) rfl)) (fun _ h9 => h9) rfl dX1_apart_22 ?_
  refine lv_iload_n hx hb dX1_apart_25 rfl (lv_at hl 1 rfl) ?_
  refine va_iald hx hb hK hP 1 0 rfl rfl (by assumption) dX1_apart_26 ?_
  refine lv_aload_n hx hb dX1_apart_27 rfl (lv_at hl 0 rfl) ?_
  refine va_get (D := D) (ci := 3) (v := .ref q1) (C := RX1) (T := TX1) (N := 4) hx hb hts in_X1_apart_X1 hown hK hP 0 rfl rfl 0 (by decide) (hts (.fieldLink RX1 9 "Nearestclock" "held" "[I") (List.mem_of_getElem? (i := 1) rfl)) (fun _ h9 => h9) rfl dX1_apart_28 ?_
  refine lv_iload_n hx hb dX1_apart_31 rfl (lv_at hl 2 rfl) ?_
  refine va_iald hx hb hK hP 1 0 rfl rfl (by assumption) dX1_apart_32 ?_
  refine vp_callSi (va_Run.run (va_runS (As := [.int (hf i0.toNatClampNeg), .int (hf i1.toNatClampNeg)]) (rest := [.int (f_re (hf i0.toNatClampNeg) (hf i1.toNatClampNeg))]) ⟨hx, hb, hml, hown, hts⟩ (c_X1_cutOf l (hf i0.toNatClampNeg) (hf i1.toNatClampNeg) (by assumption)) (va_cwS 2 hts gX1_apart_X1_cutOf rfl rfl rfl (by decide +kernel) ⟨Nat.le_of_ble_eq_true rfl, Nat.le_of_ble_eq_true rfl⟩) ⟨ny_blindT, fun U hU hW => ⟨rfl, trivial⟩⟩ rfl rfl hl.1 rfl (lv_room (Nat.le_of_ble_eq_true rfl)) dX1_apart_33 ⟨Nat.le_of_ble_eq_true rfl, Nat.le_of_ble_eq_true rfl⟩)) (fun r_33 hw_33 => ?_)
  have hw_33 : r_33 = f_cu (hf i0.toNatClampNeg) (hf i1.toNatClampNeg) := hw_33
  subst hw_33
  refine lv_isub hx hb dX1_apart_36 ?_
  refine lv_istore_n (lv' := [(3, .int ((f_re (hf i0.toNatClampNeg) (hf i1.toNatClampNeg)) - (f_cu (hf i0.toNatClampNeg) (hf i1.toNatClampNeg)))), (0, .ref o), (1, .int i0), (2, .int i1)]) hx hb dX1_apart_37 rfl hl (by decide) rfl (fun ls hl => ?_)
  refine lv_iload_n hx hb dX1_apart_38 rfl (lv_at hl 0 rfl) ?_
  refine lv_iconst (v := 0) hx hb dX1_apart_39 (by decide) ?_
  refine vp_callSi (va_Run.run (va_runS (As := [.int ((f_re (hf i0.toNatClampNeg) (hf i1.toNatClampNeg)) - (f_cu (hf i0.toNatClampNeg) (hf i1.toNatClampNeg))), .int 0]) (rest := []) ⟨hx, hb, hml, hown, hts⟩ (c_J6_compare_7cf53 l ((f_re (hf i0.toNatClampNeg) (hf i1.toNatClampNeg)) - (f_cu (hf i0.toNatClampNeg) (hf i1.toNatClampNeg))) 0) (va_cwS 2 hts gX1_apart_J6_compare_7cf53 rfl rfl rfl (by decide +kernel) ⟨Nat.le_of_ble_eq_true rfl, Nat.le_of_ble_eq_true rfl⟩) ⟨ny_blindT, fun U hU hW => ⟨rfl, trivial⟩⟩ rfl rfl hl.1 rfl (lv_room (Nat.le_of_ble_eq_true rfl)) dX1_apart_40 ⟨Nat.le_of_ble_eq_true rfl, Nat.le_of_ble_eq_true rfl⟩)) (fun r_40 hw_40 => ?_)
  have hw_40 : r_40 = if ((f_re (hf i0.toNatClampNeg) (hf i1.toNatClampNeg)) - (f_cu (hf i0.toNatClampNeg) (hf i1.toNatClampNeg))) < 0 then -1 else if ((f_re (hf i0.toNatClampNeg) (hf i1.toNatClampNeg)) - (f_cu (hf i0.toNatClampNeg) (hf i1.toNatClampNeg))) = 0 then 0 else 1 := hw_40
  subst hw_40
  exact W.iret (v := if ((f_re (hf i0.toNatClampNeg) (hf i1.toNatClampNeg)) - (f_cu (hf i0.toNatClampNeg) (hf i1.toNatClampNeg))) < 0 then -1 else if ((f_re (hf i0.toNatClampNeg) (hf i1.toNatClampNeg)) - (f_cu (hf i0.toNatClampNeg) (hf i1.toNatClampNeg))) = 0 then 0 else 1) hx hb hr (fun t ht hW => ⟨if ((f_re (hf i0.toNatClampNeg) (hf i1.toNatClampNeg)) - (f_cu (hf i0.toNatClampNeg) (hf i1.toNatClampNeg))) < 0 then -1 else if ((f_re (hf i0.toNatClampNeg) (hf i1.toNatClampNeg)) - (f_cu (hf i0.toNatClampNeg) (hf i1.toNatClampNeg))) = 0 then 0 else 1, rfl, (rfl), ht⟩) (fun q hq => absurd hq List.not_mem_nil) dX1_apart_43
set_option maxHeartbeats 4000000 in
set_option maxRecDepth 100000 in
theorem c_X1_apart_noP (l : Launch) (D : va_G) (cI : ClassId) (cZ : ClassId) (o : Nat) (q1 : Nat) (q2 : Nat) (q3 : Nat) (q4 : Nat) (sz : Nat) (hf : Nat → Int32) (bf : Nat → Int32) (i0 : Int32) (i1 : Int32) (gl : l.stackTraces = false) (gb : ¬ vp_in i0 12 ∨ ¬ vp_in i1 12) : vx_Met l yX1_apart wsX1_apart ({ frames := 8, cells := 1, slots := 6, locals := 132 }) (va_Pc [.ref o, .int i0, .int i1] (ny_pre D [(cI, .int), (cZ, .boolean)] [(o, .inr (3, [.ref q1, .ref q2, .ref q3, .ref q4])), (q1, .inl (cI, 12, .inl hf)), (q2, .inl (cZ, 12, .inl bf))] sz)) (fun _ _ _ _ => False) (vx_X (fun _ : Unit => True) (fun E' _ _ => E' = ny_IO) (fun _ => False)) 1 6 (va_A [(o, .inr (3, [.ref q1, .ref q2, .ref q3, .ref q4])), (q1, .inl (cI, 12, .inl hf)), (q2, .inl (cZ, 12, .inl bf))] sz) := by
  refine vx_ofW (cc := cX1_apart) (maxL := 4) (ret := (some .int)) (by decide) rfl ?_
  intro p e s m args below meth c s₁ B hml ht hv
  obtain ⟨rfl, hsz, hP, hK, hD0, hE⟩ := hv
  have hx := B.exec
  have hb := B.bytes
  have hr := B.returns
  have hts := atoms_spec (ws := wsX1_apart) B.pre
  have hown : s.vm.findClass RX1 = some m.cls := findClass_of_methodNamed B.named
  have hlocks := B.notSynchronized
  subst hsz
  have hD := hD0.self (sz := s.heap.size)
  generalize hAe : va_A [(o, .inr (3, [.ref q1, .ref q2, .ref q3, .ref q4])), (q1, .inl (cI, 12, .inl hf)), (q2, .inl (cZ, 12, .inl bf))] s.heap.size = A at hD hE ⊢
  have hA : ∀ q : Nat, s.heap.size ≤ q → A q := fun q h => by rw [← hAe]; exact Or.inr h
  have hS : va_S A s.heap s.heap [] := va_S.rf
  have hl := lv_entry ([.ref o, .int i0, .int i1]) (n := 4) (Nat.le_of_ble_eq_true rfl)
  rw [lg_entry_eq]
  generalize (lg_sl ([.ref o, .int i0, .int i1]) ++ List.replicate (4 - (lg_sl ([.ref o, .int i0, .int i1])).length) Slot.unset).toArray = ls at hl ⊢
  have hl : lv_has ls 4 [(0, .ref o), (1, .int i0), (2, .int i1)] := hl
  refine lv_aload_n hx hb dX1_apart_0 rfl (lv_at hl 0 rfl) ?_
  refine lv_iload_n hx hb dX1_apart_1 rfl (lv_at hl 1 rfl) ?_
  refine lv_iload_n hx hb dX1_apart_2 rfl (lv_at hl 2 rfl) ?_
  exact ny_th hS (va_free (wc := [(o, .inr (3, [.ref q1, .ref q2, .ref q3, .ref q4])), (q1, .inl (cI, 12, .inl hf)), (q2, .inl (cZ, 12, .inl bf))]) hD hS hA [0, 1, 2] rfl) ht hlocks (Nat.le_of_ble_eq_true rfl) (Nat.le_of_ble_eq_true rfl) (vx_runV (As := [.int i0, .int i1]) (rest := []) ⟨hx, hb, hml, hown, hts⟩ (c_X1_needDivision_noP l D cI cZ o q1 q2 q3 q4 s.heap.size hf bf i0 i1 (by assumption) (by assumption)) (cwV 2 hts gX1_apart_X1_needDivision rfl rfl rfl (by decide +kernel) ⟨Nat.le_of_ble_eq_true rfl, Nat.le_of_ble_eq_true rfl⟩) ⟨ny_blind, va_recv hK hP (ci := 3) (q0 := 0) rfl rfl, fun U hU hW => ⟨rfl, ny_preU hE hP hK hD hS hA [0, 1, 2] rfl (by decide) rfl [0, 1] rfl U hU hW⟩⟩ rfl rfl hl.1 rfl (lv_room (Nat.le_of_ble_eq_true rfl)) dX1_apart_3 ⟨Nat.le_of_ble_eq_true rfl, Nat.le_of_ble_eq_true rfl⟩)
set_option maxHeartbeats 4000000 in
set_option maxRecDepth 100000 in
theorem c_X1_apart_no0 (l : Launch) (D : va_G) (cI : ClassId) (cZ : ClassId) (o : Nat) (q1 : Nat) (q2 : Nat) (q3 : Nat) (q4 : Nat) (sz : Nat) (hf : Nat → Int32) (bf : Nat → Int32) (i0 : Int32) (i1 : Int32) (gl : l.stackTraces = false) (gp0 : vp_in i0 12) (gp1 : vp_in i1 12) (g0 : hf i1.toNatClampNeg = 0) : vx_Met l yX1_apart wsX1_apart ({ frames := 7, cells := 1, slots := 6, locals := 112 }) (va_Pc [.ref o, .int i0, .int i1] (ny_pre D [(cI, .int), (cZ, .boolean)] [(o, .inr (3, [.ref q1, .ref q2, .ref q3, .ref q4])), (q1, .inl (cI, 12, .inl hf)), (q2, .inl (cZ, 12, .inl bf))] sz)) (fun _ _ _ _ => False) (vx_X (fun _ : Unit => True) (fun E' _ _ => E' = ny_AE) (fun _ => False)) 1 6 (va_A [(o, .inr (3, [.ref q1, .ref q2, .ref q3, .ref q4])), (q1, .inl (cI, 12, .inl hf)), (q2, .inl (cZ, 12, .inl bf))] sz) := by
  refine vx_ofW (cc := cX1_apart) (maxL := 4) (ret := (some .int)) (by decide) rfl ?_
  intro p e s m args below meth c s₁ B hml ht hv
  obtain ⟨rfl, hsz, hP, hK, hD0, hE⟩ := hv
  have hx := B.exec
  have hb := B.bytes
  have hr := B.returns
  have hts := atoms_spec (ws := wsX1_apart) B.pre
  have hown : s.vm.findClass RX1 = some m.cls := findClass_of_methodNamed B.named
  have hlocks := B.notSynchronized
  subst hsz
  have hD := hD0.self (sz := s.heap.size)
  generalize hAe : va_A [(o, .inr (3, [.ref q1, .ref q2, .ref q3, .ref q4])), (q1, .inl (cI, 12, .inl hf)), (q2, .inl (cZ, 12, .inl bf))] s.heap.size = A at hD hE ⊢
  have hA : ∀ q : Nat, s.heap.size ≤ q → A q := fun q h => by rw [← hAe]; exact Or.inr h
  have hS : va_S A s.heap s.heap [] := va_S.rf
  have hl := lv_entry ([.ref o, .int i0, .int i1]) (n := 4) (Nat.le_of_ble_eq_true rfl)
  rw [lg_entry_eq]
  generalize (lg_sl ([.ref o, .int i0, .int i1]) ++ List.replicate (4 - (lg_sl ([.ref o, .int i0, .int i1])).length) Slot.unset).toArray = ls at hl ⊢
  have hl : lv_has ls 4 [(0, .ref o), (1, .int i0), (2, .int i1)] := hl
  refine lv_aload_n hx hb dX1_apart_0 rfl (lv_at hl 0 rfl) ?_
  refine lv_iload_n hx hb dX1_apart_1 rfl (lv_at hl 1 rfl) ?_
  refine lv_iload_n hx hb dX1_apart_2 rfl (lv_at hl 2 rfl) ?_
  exact ny_th hS (va_free (wc := [(o, .inr (3, [.ref q1, .ref q2, .ref q3, .ref q4])), (q1, .inl (cI, 12, .inl hf)), (q2, .inl (cZ, 12, .inl bf))]) hD hS hA [0, 1, 2] rfl) ht hlocks (Nat.le_of_ble_eq_true rfl) (Nat.le_of_ble_eq_true rfl) (vx_runV (As := [.int i0, .int i1]) (rest := []) ⟨hx, hb, hml, hown, hts⟩ (c_X1_needDivision_no0 l D cI cZ o q1 q2 q3 q4 s.heap.size hf bf i0 i1 (by assumption) (by assumption) (by assumption) (by assumption)) (cwV 2 hts gX1_apart_X1_needDivision rfl rfl rfl (by decide +kernel) ⟨Nat.le_of_ble_eq_true rfl, Nat.le_of_ble_eq_true rfl⟩) ⟨ny_blind, va_recv hK hP (ci := 3) (q0 := 0) rfl rfl, fun U hU hW => ⟨rfl, ny_preU hE hP hK hD hS hA [0, 1, 2] rfl (by decide) rfl [0, 1] rfl U hU hW⟩⟩ rfl rfl hl.1 rfl (lv_room (Nat.le_of_ble_eq_true rfl)) dX1_apart_3 ⟨Nat.le_of_ble_eq_true rfl, Nat.le_of_ble_eq_true rfl⟩)
theorem in_X1_residue_X1 : ∀ w ∈ wsX10, w ∈ wsX1_residue := (fun _ h => List.mem_cons_of_mem _ (List.mem_append_left _ (List.mem_append_left _ (List.mem_append_left _ (List.mem_append_left _ (List.mem_append_right _ h))))))
set_option maxHeartbeats 4000000 in
set_option maxRecDepth 100000 in
theorem c_X1_residue (l : Launch) (D : va_G) (cI : ClassId) (cZ : ClassId) (o : Nat) (q1 : Nat) (q2 : Nat) (q3 : Nat) (q4 : Nat) (sz : Nat) (hf : Nat → Int32) (bf : Nat → Int32) (i0 : Int32) (i1 : Int32) (i2 : Int32) (gp0 : vp_in i0 12) (gp1 : vp_in i1 12) (gp2 : vp_in i2 12) (g0 : ¬ hf i2.toNatClampNeg = 0) (gH : ny_H hf) : Met l yX1_residue wsX1_residue ({ frames := 5, cells := 0, slots := 0, locals := 119 }) (va_Pc [.ref o, .int i0, .int i1, .int i2] (ny_pre D [(cI, .int), (cZ, .boolean)] [(o, .inr (3, [.ref q1, .ref q2, .ref q3, .ref q4])), (q1, .inl (cI, 12, .inl hf)), (q2, .inl (cZ, 12, .inl bf))] sz)) (va_Ql (fun (r : Int64) (u : Unit) => r = f_bt (f_rs ((hf i1.toNatClampNeg).toInt64) (hf i2.toNatClampNeg)) 0) (fun (u : Unit) t => ny_at D [(cI, .int), (cZ, .boolean)] (va_A [(o, .inr (3, [.ref q1, .ref q2, .ref q3, .ref q4])), (q1, .inl (cI, 12, .inl hf)), (q2, .inl (cZ, 12, .inl bf))] sz) [(o, .inr (3, [.ref q1, .ref q2, .ref q3, .ref q4])), (q1, .inl (cI, 12, .inl (upd hf i0.toNatClampNeg (f_rs ((hf i1.toNatClampNeg).toInt64) (hf i2.toNatClampNeg))))), (q2, .inl (cZ, 12, .inl (upd bf i0.toNatClampNeg 0)))] t) (va_A [(o, .inr (3, [.ref q1, .ref q2, .ref q3, .ref q4])), (q1, .inl (cI, 12, .inl hf)), (q2, .inl (cZ, 12, .inl bf))] sz)) 0 0 (va_A [(o, .inr (3, [.ref q1, .ref q2, .ref q3, .ref q4])), (q1, .inl (cI, 12, .inl hf)), (q2, .inl (cZ, 12, .inl bf))] sz) := by
  refine Met.ofW (cc := cX1_residue) (maxL := 4) (ret := (some .long)) (by decide) rfl ?_
  intro p e s m args below meth c s₁ B hml hv
  obtain ⟨rfl, hsz, hP, hK, hD0, hE⟩ := hv
  have hx := B.exec
  have hb := B.bytes
  have hr := B.returns
  have hts := atoms_spec (ws := wsX1_residue) B.pre
  have hown : s.vm.findClass RX1 = some m.cls := findClass_of_methodNamed B.named
  have hlocks := B.notSynchronized
  subst hsz
  have hD := hD0.self (sz := s.heap.size)
  generalize hAe : va_A [(o, .inr (3, [.ref q1, .ref q2, .ref q3, .ref q4])), (q1, .inl (cI, 12, .inl hf)), (q2, .inl (cZ, 12, .inl bf))] s.heap.size = A at hD hE ⊢
  have hA : ∀ q : Nat, s.heap.size ≤ q → A q := fun q h => by rw [← hAe]; exact Or.inr h
  have hS : va_S A s.heap s.heap [] := va_S.rf
  have hl := lv_entry ([.ref o, .int i0, .int i1, .int i2]) (n := 4) (Nat.le_of_ble_eq_true rfl)
  rw [lg_entry_eq]
  generalize (lg_sl ([.ref o, .int i0, .int i1, .int i2]) ++ List.replicate (4 - (lg_sl ([.ref o, .int i0, .int i1, .int i2])).length) Slot.unset).toArray = ls at hl ⊢
  have hl : lv_has ls 4 [(0, .ref o), (1, .int i0), (2, .int i1), (3, .int i2)] := hl
  refine lv_iload_n hx hb dX1_residue_0 rfl (lv_at hl 1 rfl) ?_
  refine va_csv (va_Run.run (va_runS (As := [.int i0]) (rest := []) ⟨hx, hb, hml, hown, hts⟩ (c_X1_needPlace l i0 (by assumption)) (va_cwS 1 hts gX1_residue_X1_needPlace rfl rfl rfl (by decide +kernel) ⟨Nat.le_of_ble_eq_true rfl, Nat.le_of_ble_eq_true rfl⟩) ⟨ny_blindT, fun U hU hW => ⟨rfl, trivial⟩⟩ rfl rfl hl.1 rfl (lv_room (Nat.le_of_ble_eq_true rfl)) dX1_residue_1 ⟨Nat.le_of_ble_eq_true rfl, Nat.le_of_ble_eq_true rfl⟩)) (fun hw => ?_)
  refine lv_aload_n hx hb dX1_residue_4 rfl (lv_at hl 0 rfl) ?_
  refine lv_iload_n hx hb dX1_residue_5 rfl (lv_at hl 2 rfl) ?_
  refine lv_iload_n hx hb dX1_residue_6 rfl (lv_at hl 3 rfl) ?_
  refine va_csv (va_Run.run (va_runV (As := [.int i1, .int i2]) (rest := []) ⟨hx, hb, hml, hown, hts⟩ (c_X1_needDivision l D cI cZ o q1 q2 q3 q4 s.heap.size hf bf i1 i2 (by assumption) (by assumption) (by assumption)) (cwV 2 hts gX1_residue_X1_needDivision rfl rfl rfl (by decide +kernel) ⟨Nat.le_of_ble_eq_true rfl, Nat.le_of_ble_eq_true rfl⟩) ⟨ny_blind, va_recv hK hP (ci := 3) (q0 := 0) rfl rfl, fun U hU hW => ⟨rfl, ny_preU hE hP hK hD hS hA [0, 1, 2] rfl (by decide) rfl [0, 1] rfl U hU hW⟩⟩ rfl rfl hl.1 rfl (lv_room (Nat.le_of_ble_eq_true rfl)) dX1_residue_7 ⟨Nat.le_of_ble_eq_true rfl, Nat.le_of_ble_eq_true rfl⟩)) (fun hw => ?_)
  refine lv_aload_n hx hb dX1_residue_10 rfl (lv_at hl 0 rfl) ?_
  refine lv_iload_n hx hb dX1_residue_11 rfl (lv_at hl 1 rfl) ?_
  refine lv_aload_n hx hb dX1_residue_12 rfl (lv_at hl 0 rfl) ?_
  refine va_get (D := D) (ci := 3) (v := .ref q1) (C := RX1) (T := TX1) (N := 4) hx hb hts in_X1_residue_X1 hown hK hP 0 rfl rfl 0 (by decide) (hts (.fieldLink RX1 9 "Nearestclock" "held" "[I") (List.mem_of_getElem? (i := 1) rfl)) (fun _ h9 => h9) rfl dX1_residue_13 ?_
  refine lv_iload_n hx hb dX1_residue_16 rfl (lv_at hl 2 rfl) ?_
  refine va_iald hx hb hK hP 1 0 rfl rfl (by assumption) dX1_residue_17 ?_
  refine lv_i2l hx hb dX1_residue_18 rfl ?_
  refine lv_iload_n hx hb dX1_residue_19 rfl (lv_at hl 3 rfl) ?_
  refine ny_l (wc := [(o, .inr (3, [.ref q1, .ref q2, .ref q3, .ref q4])), (q1, .inl (cI, 12, .inl hf)), (q2, .inl (cZ, 12, .inl bf))]) (wr := []) hP hD hS hA [0, 1, 2] [] rfl rfl (by decide) (by decide) (va_runV (As := [.int i0, .long ((hf i1.toNatClampNeg).toInt64), .int i2]) (rest := []) ⟨hx, hb, hml, hown, hts⟩ (c_X1_keepResidue l D cI cZ o q1 q2 q3 q4 s.heap.size hf bf i0 ((hf i1.toNatClampNeg).toInt64) i2 (by assumption) (by assumption) (by assumption) (by assumption) (n_lo _)) (cwV 3 hts gX1_residue_X1_keepResidue rfl rfl rfl (by decide +kernel) ⟨Nat.le_of_ble_eq_true rfl, Nat.le_of_ble_eq_true rfl⟩) ⟨ny_blind, va_recv hK hP (ci := 3) (q0 := 0) rfl rfl, fun U hU hW => ⟨rfl, ny_preU hE hP hK hD hS hA [0, 1, 2] rfl (by decide) rfl [0, 1] rfl U hU hW⟩⟩ rfl rfl hl.1 rfl (lv_room (Nat.le_of_ble_eq_true rfl)) dX1_residue_20 ⟨Nat.le_of_ble_eq_true rfl, Nat.le_of_ble_eq_true rfl⟩) (fun r_20 u H locs hw_20 hP hD hS => ?_)
  have hP : va_P D vwCl [(o, .inr (3, [.ref q1, .ref q2, .ref q3, .ref q4])), (q1, .inl (cI, 12, .inl (upd hf i0.toNatClampNeg (f_rs ((hf i1.toNatClampNeg).toInt64) (hf i2.toNatClampNeg))))), (q2, .inl (cZ, 12, .inl (upd bf i0.toNatClampNeg 0)))] H := hP
  have hD : va_D A [(o, .inr (3, [.ref q1, .ref q2, .ref q3, .ref q4])), (q1, .inl (cI, 12, .inl (upd hf i0.toNatClampNeg (f_rs ((hf i1.toNatClampNeg).toInt64) (hf i2.toNatClampNeg))))), (q2, .inl (cZ, 12, .inl (upd bf i0.toNatClampNeg 0)))] := hD
  have hw_20 : r_20 = f_bt (f_rs ((hf i1.toNatClampNeg).toInt64) (hf i2.toNatClampNeg)) 0 := hw_20
  subst hw_20
  have hP9 := hP.sub (ws' := [(o, .inr (3, [.ref q1, .ref q2, .ref q3, .ref q4])), (q1, .inl (cI, 12, .inl (upd hf i0.toNatClampNeg (f_rs ((hf i1.toNatClampNeg).toInt64) (hf i2.toNatClampNeg))))), (q2, .inl (cZ, 12, .inl (upd bf i0.toNatClampNeg 0)))]) [0, 1, 2] rfl
  have hD9 := hD.sub (ws' := [(o, .inr (3, [.ref q1, .ref q2, .ref q3, .ref q4])), (q1, .inl (cI, 12, .inl (upd hf i0.toNatClampNeg (f_rs ((hf i1.toNatClampNeg).toInt64) (hf i2.toNatClampNeg))))), (q2, .inl (cZ, 12, .inl (upd bf i0.toNatClampNeg 0)))]) [0, 1, 2] (by decide) rfl
  exact W.lret (v := f_bt (f_rs ((hf i1.toNatClampNeg).toInt64) (hf i2.toNatClampNeg)) 0) hx hb hr (fun t ht hW => ⟨⟨f_bt (f_rs ((hf i1.toNatClampNeg).toInt64) (hf i2.toNatClampNeg)) 0, (), rfl, (rfl), by rw [ht]; exact hP9, va_K.moved hW.alike hK, hD9⟩, hS.F ht⟩) hS.2.2 dX1_residue_23
set_option maxHeartbeats 4000000 in
set_option maxRecDepth 100000 in
theorem c_X1_residue_noP (l : Launch) (D : va_G) (cI : ClassId) (cZ : ClassId) (o : Nat) (q1 : Nat) (q2 : Nat) (q3 : Nat) (q4 : Nat) (sz : Nat) (hf : Nat → Int32) (bf : Nat → Int32) (i0 : Int32) (i1 : Int32) (i2 : Int32) (gl : l.stackTraces = false) (gb : ¬ vp_in i0 12 ∨ (¬ vp_in i1 12 ∨ ¬ vp_in i2 12)) : vx_Met l yX1_residue wsX1_residue ({ frames := 8, cells := 1, slots := 6, locals := 132 }) (va_Pc [.ref o, .int i0, .int i1, .int i2] (ny_pre D [(cI, .int), (cZ, .boolean)] [(o, .inr (3, [.ref q1, .ref q2, .ref q3, .ref q4])), (q1, .inl (cI, 12, .inl hf)), (q2, .inl (cZ, 12, .inl bf))] sz)) (fun _ _ _ _ => False) (vx_X (fun _ : Unit => True) (fun E' _ _ => E' = ny_IO) (fun _ => False)) 1 6 (va_A [(o, .inr (3, [.ref q1, .ref q2, .ref q3, .ref q4])), (q1, .inl (cI, 12, .inl hf)), (q2, .inl (cZ, 12, .inl bf))] sz) := by
  refine vx_ofW (cc := cX1_residue) (maxL := 4) (ret := (some .long)) (by decide) rfl ?_
  intro p e s m args below meth c s₁ B hml ht hv
  obtain ⟨rfl, hsz, hP, hK, hD0, hE⟩ := hv
  have hx := B.exec
  have hb := B.bytes
  have hr := B.returns
  have hts := atoms_spec (ws := wsX1_residue) B.pre
  have hown : s.vm.findClass RX1 = some m.cls := findClass_of_methodNamed B.named
  have hlocks := B.notSynchronized
  subst hsz
  have hD := hD0.self (sz := s.heap.size)
  generalize hAe : va_A [(o, .inr (3, [.ref q1, .ref q2, .ref q3, .ref q4])), (q1, .inl (cI, 12, .inl hf)), (q2, .inl (cZ, 12, .inl bf))] s.heap.size = A at hD hE ⊢
  have hA : ∀ q : Nat, s.heap.size ≤ q → A q := fun q h => by rw [← hAe]; exact Or.inr h
  have hS : va_S A s.heap s.heap [] := va_S.rf
  have hl := lv_entry ([.ref o, .int i0, .int i1, .int i2]) (n := 4) (Nat.le_of_ble_eq_true rfl)
  rw [lg_entry_eq]
  generalize (lg_sl ([.ref o, .int i0, .int i1, .int i2]) ++ List.replicate (4 - (lg_sl ([.ref o, .int i0, .int i1, .int i2])).length) Slot.unset).toArray = ls at hl ⊢
  have hl : lv_has ls 4 [(0, .ref o), (1, .int i0), (2, .int i1), (3, .int i2)] := hl
  refine lv_iload_n hx hb dX1_residue_0 rfl (lv_at hl 1 rfl) ?_
  by_cases q_1 : vp_in i0 12
  · have gb := gb.resolve_left (fun h => h q_1)
    refine va_csv (va_Run.run (va_runS (As := [.int i0]) (rest := []) ⟨hx, hb, hml, hown, hts⟩ (c_X1_needPlace l i0 (by assumption)) (va_cwS 1 hts gX1_residue_X1_needPlace rfl rfl rfl (by decide +kernel) ⟨Nat.le_of_ble_eq_true rfl, Nat.le_of_ble_eq_true rfl⟩) ⟨ny_blindT, fun U hU hW => ⟨rfl, trivial⟩⟩ rfl rfl hl.1 rfl (lv_room (Nat.le_of_ble_eq_true rfl)) dX1_residue_1 ⟨Nat.le_of_ble_eq_true rfl, Nat.le_of_ble_eq_true rfl⟩)) (fun hw => ?_)
    refine lv_aload_n hx hb dX1_residue_4 rfl (lv_at hl 0 rfl) ?_
    refine lv_iload_n hx hb dX1_residue_5 rfl (lv_at hl 2 rfl) ?_
    refine lv_iload_n hx hb dX1_residue_6 rfl (lv_at hl 3 rfl) ?_
    exact ny_th hS (va_free (wc := [(o, .inr (3, [.ref q1, .ref q2, .ref q3, .ref q4])), (q1, .inl (cI, 12, .inl hf)), (q2, .inl (cZ, 12, .inl bf))]) hD hS hA [0, 1, 2] rfl) ht hlocks (Nat.le_of_ble_eq_true rfl) (Nat.le_of_ble_eq_true rfl) (vx_runV (As := [.int i1, .int i2]) (rest := []) ⟨hx, hb, hml, hown, hts⟩ (c_X1_needDivision_noP l D cI cZ o q1 q2 q3 q4 s.heap.size hf bf i1 i2 (by assumption) (by assumption)) (cwV 2 hts gX1_residue_X1_needDivision rfl rfl rfl (by decide +kernel) ⟨Nat.le_of_ble_eq_true rfl, Nat.le_of_ble_eq_true rfl⟩) ⟨ny_blind, va_recv hK hP (ci := 3) (q0 := 0) rfl rfl, fun U hU hW => ⟨rfl, ny_preU hE hP hK hD hS hA [0, 1, 2] rfl (by decide) rfl [0, 1] rfl U hU hW⟩⟩ rfl rfl hl.1 rfl (lv_room (Nat.le_of_ble_eq_true rfl)) dX1_residue_7 ⟨Nat.le_of_ble_eq_true rfl, Nat.le_of_ble_eq_true rfl⟩)
  · exact ny_th hS (va_free (wc := []) hD hS hA [] rfl) ht hlocks (Nat.le_of_ble_eq_true rfl) (Nat.le_of_ble_eq_true rfl) (vx_runS (As := [.int i0]) (rest := []) ⟨hx, hb, hml, hown, hts⟩ (c_X1_needPlace_no l D s.heap.size i0 (by assumption) (by assumption)) (va_cwS 1 hts gX1_residue_X1_needPlace rfl rfl rfl (by decide +kernel) ⟨Nat.le_of_ble_eq_true rfl, Nat.le_of_ble_eq_true rfl⟩) ⟨ny_blind, fun U hU hW => ⟨rfl, ny_preU hE hP hK hD hS hA [] rfl (by decide) rfl [] rfl U hU hW⟩⟩ rfl rfl hl.1 rfl (lv_room (Nat.le_of_ble_eq_true rfl)) dX1_residue_1 ⟨Nat.le_of_ble_eq_true rfl, Nat.le_of_ble_eq_true rfl⟩)
set_option maxHeartbeats 4000000 in
set_option maxRecDepth 100000 in
theorem c_X1_residue_no0 (l : Launch) (D : va_G) (cI : ClassId) (cZ : ClassId) (o : Nat) (q1 : Nat) (q2 : Nat) (q3 : Nat) (q4 : Nat) (sz : Nat) (hf : Nat → Int32) (bf : Nat → Int32) (i0 : Int32) (i1 : Int32) (i2 : Int32) (gl : l.stackTraces = false) (gp0 : vp_in i0 12) (gp1 : vp_in i1 12) (gp2 : vp_in i2 12) (g0 : hf i2.toNatClampNeg = 0) : vx_Met l yX1_residue wsX1_residue ({ frames := 7, cells := 1, slots := 6, locals := 112 }) (va_Pc [.ref o, .int i0, .int i1, .int i2] (ny_pre D [(cI, .int), (cZ, .boolean)] [(o, .inr (3, [.ref q1, .ref q2, .ref q3, .ref q4])), (q1, .inl (cI, 12, .inl hf)), (q2, .inl (cZ, 12, .inl bf))] sz)) (fun _ _ _ _ => False) (vx_X (fun _ : Unit => True) (fun E' _ _ => E' = ny_AE) (fun _ => False)) 1 6 (va_A [(o, .inr (3, [.ref q1, .ref q2, .ref q3, .ref q4])), (q1, .inl (cI, 12, .inl hf)), (q2, .inl (cZ, 12, .inl bf))] sz) := by
  refine vx_ofW (cc := cX1_residue) (maxL := 4) (ret := (some .long)) (by decide) rfl ?_
  intro p e s m args below meth c s₁ B hml ht hv
  obtain ⟨rfl, hsz, hP, hK, hD0, hE⟩ := hv
  have hx := B.exec
  have hb := B.bytes
  have hr := B.returns
  have hts := atoms_spec (ws := wsX1_residue) B.pre
  have hown : s.vm.findClass RX1 = some m.cls := findClass_of_methodNamed B.named
  have hlocks := B.notSynchronized
  subst hsz
  have hD := hD0.self (sz := s.heap.size)
  generalize hAe : va_A [(o, .inr (3, [.ref q1, .ref q2, .ref q3, .ref q4])), (q1, .inl (cI, 12, .inl hf)), (q2, .inl (cZ, 12, .inl bf))] s.heap.size = A at hD hE ⊢
  have hA : ∀ q : Nat, s.heap.size ≤ q → A q := fun q h => by rw [← hAe]; exact Or.inr h
  have hS : va_S A s.heap s.heap [] := va_S.rf
  have hl := lv_entry ([.ref o, .int i0, .int i1, .int i2]) (n := 4) (Nat.le_of_ble_eq_true rfl)
  rw [lg_entry_eq]
  generalize (lg_sl ([.ref o, .int i0, .int i1, .int i2]) ++ List.replicate (4 - (lg_sl ([.ref o, .int i0, .int i1, .int i2])).length) Slot.unset).toArray = ls at hl ⊢
  have hl : lv_has ls 4 [(0, .ref o), (1, .int i0), (2, .int i1), (3, .int i2)] := hl
  refine lv_iload_n hx hb dX1_residue_0 rfl (lv_at hl 1 rfl) ?_
  refine va_csv (va_Run.run (va_runS (As := [.int i0]) (rest := []) ⟨hx, hb, hml, hown, hts⟩ (c_X1_needPlace l i0 (by assumption)) (va_cwS 1 hts gX1_residue_X1_needPlace rfl rfl rfl (by decide +kernel) ⟨Nat.le_of_ble_eq_true rfl, Nat.le_of_ble_eq_true rfl⟩) ⟨ny_blindT, fun U hU hW => ⟨rfl, trivial⟩⟩ rfl rfl hl.1 rfl (lv_room (Nat.le_of_ble_eq_true rfl)) dX1_residue_1 ⟨Nat.le_of_ble_eq_true rfl, Nat.le_of_ble_eq_true rfl⟩)) (fun hw => ?_)
  refine lv_aload_n hx hb dX1_residue_4 rfl (lv_at hl 0 rfl) ?_
  refine lv_iload_n hx hb dX1_residue_5 rfl (lv_at hl 2 rfl) ?_
  refine lv_iload_n hx hb dX1_residue_6 rfl (lv_at hl 3 rfl) ?_
  exact ny_th hS (va_free (wc := [(o, .inr (3, [.ref q1, .ref q2, .ref q3, .ref q4])), (q1, .inl (cI, 12, .inl hf)), (q2, .inl (cZ, 12, .inl bf))]) hD hS hA [0, 1, 2] rfl) ht hlocks (Nat.le_of_ble_eq_true rfl) (Nat.le_of_ble_eq_true rfl) (vx_runV (As := [.int i1, .int i2]) (rest := []) ⟨hx, hb, hml, hown, hts⟩ (c_X1_needDivision_no0 l D cI cZ o q1 q2 q3 q4 s.heap.size hf bf i1 i2 (by assumption) (by assumption) (by assumption) (by assumption)) (cwV 2 hts gX1_residue_X1_needDivision rfl rfl rfl (by decide +kernel) ⟨Nat.le_of_ble_eq_true rfl, Nat.le_of_ble_eq_true rfl⟩) ⟨ny_blind, va_recv hK hP (ci := 3) (q0 := 0) rfl rfl, fun U hU hW => ⟨rfl, ny_preU hE hP hK hD hS hA [0, 1, 2] rfl (by decide) rfl [0, 1] rfl U hU hW⟩⟩ rfl rfl hl.1 rfl (lv_room (Nat.le_of_ble_eq_true rfl)) dX1_residue_7 ⟨Nat.le_of_ble_eq_true rfl, Nat.le_of_ble_eq_true rfl⟩)
theorem in_X1_plus_X1 : ∀ w ∈ wsX10, w ∈ wsX1_plus := (fun _ h => List.mem_cons_of_mem _ (List.mem_append_left _ (List.mem_append_left _ (List.mem_append_left _ (List.mem_append_left _ (List.mem_append_right _ h))))))
set_option maxHeartbeats 4000000 in
set_option maxRecDepth 100000 in
theorem c_X1_plus (l : Launch) (D : va_G) (cI : ClassId) (cZ : ClassId) (o : Nat) (q1 : Nat) (q2 : Nat) (q3 : Nat) (q4 : Nat) (sz : Nat) (hf : Nat → Int32) (bf : Nat → Int32) (i0 : Int32) (i1 : Int32) (i2 : Int32) (i3 : Int32) (gp0 : vp_in i0 12) (gp1 : vp_in i1 12) (gp2 : vp_in i2 12) (gp3 : vp_in i3 12) (g0 : ¬ hf i3.toNatClampNeg = 0) (gH : ny_H hf) : Met l yX1_plus wsX1_plus ({ frames := 5, cells := 0, slots := 0, locals := 119 }) (va_Pc [.ref o, .int i0, .int i1, .int i2, .int i3] (ny_pre D [(cI, .int), (cZ, .boolean)] [(o, .inr (3, [.ref q1, .ref q2, .ref q3, .ref q4])), (q1, .inl (cI, 12, .inl hf)), (q2, .inl (cZ, 12, .inl bf))] sz)) (va_Ql (fun (r : Int64) (u : Unit) => r = f_bt (f_rs ((hf i1.toNatClampNeg + hf i2.toNatClampNeg).toInt64) (hf i3.toNatClampNeg)) 0) (fun (u : Unit) t => ny_at D [(cI, .int), (cZ, .boolean)] (va_A [(o, .inr (3, [.ref q1, .ref q2, .ref q3, .ref q4])), (q1, .inl (cI, 12, .inl hf)), (q2, .inl (cZ, 12, .inl bf))] sz) [(o, .inr (3, [.ref q1, .ref q2, .ref q3, .ref q4])), (q1, .inl (cI, 12, .inl (upd hf i0.toNatClampNeg (f_rs ((hf i1.toNatClampNeg + hf i2.toNatClampNeg).toInt64) (hf i3.toNatClampNeg))))), (q2, .inl (cZ, 12, .inl (upd bf i0.toNatClampNeg 0)))] t) (va_A [(o, .inr (3, [.ref q1, .ref q2, .ref q3, .ref q4])), (q1, .inl (cI, 12, .inl hf)), (q2, .inl (cZ, 12, .inl bf))] sz)) 0 0 (va_A [(o, .inr (3, [.ref q1, .ref q2, .ref q3, .ref q4])), (q1, .inl (cI, 12, .inl hf)), (q2, .inl (cZ, 12, .inl bf))] sz) := by
  refine Met.ofW (cc := cX1_plus) (maxL := 5) (ret := (some .long)) (by decide) rfl ?_
  intro p e s m args below meth c s₁ B hml hv
  obtain ⟨rfl, hsz, hP, hK, hD0, hE⟩ := hv
  have hx := B.exec
  have hb := B.bytes
  have hr := B.returns
  have hts := atoms_spec (ws := wsX1_plus) B.pre
  have hown : s.vm.findClass RX1 = some m.cls := findClass_of_methodNamed B.named
  have hlocks := B.notSynchronized
  subst hsz
  have hD := hD0.self (sz := s.heap.size)
  generalize hAe : va_A [(o, .inr (3, [.ref q1, .ref q2, .ref q3, .ref q4])), (q1, .inl (cI, 12, .inl hf)), (q2, .inl (cZ, 12, .inl bf))] s.heap.size = A at hD hE ⊢
  have hA : ∀ q : Nat, s.heap.size ≤ q → A q := fun q h => by rw [← hAe]; exact Or.inr h
  have hS : va_S A s.heap s.heap [] := va_S.rf
  have hl := lv_entry ([.ref o, .int i0, .int i1, .int i2, .int i3]) (n := 5) (Nat.le_of_ble_eq_true rfl)
  rw [lg_entry_eq]
  generalize (lg_sl ([.ref o, .int i0, .int i1, .int i2, .int i3]) ++ List.replicate (5 - (lg_sl ([.ref o, .int i0, .int i1, .int i2, .int i3])).length) Slot.unset).toArray = ls at hl ⊢
  have hl : lv_has ls 5 [(0, .ref o), (1, .int i0), (2, .int i1), (3, .int i2), (4, .int i3)] := hl
  refine lv_iload_n hx hb dX1_plus_0 rfl (lv_at hl 1 rfl) ?_
  refine va_csv (va_Run.run (va_runS (As := [.int i0]) (rest := []) ⟨hx, hb, hml, hown, hts⟩ (c_X1_needPlace l i0 (by assumption)) (va_cwS 1 hts gX1_plus_X1_needPlace rfl rfl rfl (by decide +kernel) ⟨Nat.le_of_ble_eq_true rfl, Nat.le_of_ble_eq_true rfl⟩) ⟨ny_blindT, fun U hU hW => ⟨rfl, trivial⟩⟩ rfl rfl hl.1 rfl (lv_room (Nat.le_of_ble_eq_true rfl)) dX1_plus_1 ⟨Nat.le_of_ble_eq_true rfl, Nat.le_of_ble_eq_true rfl⟩)) (fun hw => ?_)
  refine lv_iload_n hx hb dX1_plus_4 rfl (lv_at hl 3 rfl) ?_
  refine va_csv (va_Run.run (va_runS (As := [.int i2]) (rest := []) ⟨hx, hb, hml, hown, hts⟩ (c_X1_needPlace l i2 (by assumption)) (va_cwS 1 hts gX1_plus_X1_needPlace rfl rfl rfl (by decide +kernel) ⟨Nat.le_of_ble_eq_true rfl, Nat.le_of_ble_eq_true rfl⟩) ⟨ny_blindT, fun U hU hW => ⟨rfl, trivial⟩⟩ rfl rfl hl.1 rfl (lv_room (Nat.le_of_ble_eq_true rfl)) dX1_plus_5 ⟨Nat.le_of_ble_eq_true rfl, Nat.le_of_ble_eq_true rfl⟩)) (fun hw => ?_)
  refine lv_aload_n hx hb dX1_plus_8 rfl (lv_at hl 0 rfl) ?_
  refine lv_iload_n hx hb dX1_plus_9 rfl (lv_at hl 2 rfl) ?_
  refine lv_iload hx hb dX1_plus_10 (lv_at hl 4 rfl) ?_
  refine va_csv (va_Run.run (va_runV (As := [.int i1, .int i3]) (rest := []) ⟨hx, hb, hml, hown, hts⟩ (c_X1_needDivision l D cI cZ o q1 q2 q3 q4 s.heap.size hf bf i1 i3 (by assumption) (by assumption) (by assumption)) (cwV 2 hts gX1_plus_X1_needDivision rfl rfl rfl (by decide +kernel) ⟨Nat.le_of_ble_eq_true rfl, Nat.le_of_ble_eq_true rfl⟩) ⟨ny_blind, va_recv hK hP (ci := 3) (q0 := 0) rfl rfl, fun U hU hW => ⟨rfl, ny_preU hE hP hK hD hS hA [0, 1, 2] rfl (by decide) rfl [0, 1] rfl U hU hW⟩⟩ rfl rfl hl.1 rfl (lv_room (Nat.le_of_ble_eq_true rfl)) dX1_plus_12 ⟨Nat.le_of_ble_eq_true rfl, Nat.le_of_ble_eq_true rfl⟩)) (fun hw => ?_)
  refine lv_aload_n hx hb dX1_plus_15 rfl (lv_at hl 0 rfl) ?_
  refine lv_iload_n hx hb dX1_plus_16 rfl (lv_at hl 1 rfl) ?_
  refine lv_aload_n hx hb dX1_plus_17 rfl (lv_at hl 0 rfl) ?_
  refine va_get (D := D) (ci := 3) (v := .ref q1) (C := RX1) (T := TX1) (N := 4) hx hb hts in_X1_plus_X1 hown hK hP 0 rfl rfl 0 (by decide) (hts (.fieldLink RX1 9 "Nearestclock" "held" "[I") (List.mem_of_getElem? (i := 1) rfl)) (fun _ h9 => h9) rfl dX1_plus_18 ?_
  refine lv_iload_n hx hb dX1_plus_21 rfl (lv_at hl 2 rfl) ?_
  refine va_iald hx hb hK hP 1 0 rfl rfl (by assumption) dX1_plus_22 ?_
  refine lv_aload_n hx hb dX1_plus_23 rfl (lv_at hl 0 rfl) ?_
  refine va_get (D := D) (ci := 3) (v := .ref q1) (C := RX1) (T := TX1) (N := 4) hx hb hts in_X1_plus_X1 hown hK hP 0 rfl rfl 0 (by decide) (hts (.fieldLink RX1 9 "Nearestclock" "held" "[I") (List.mem_of_getElem? (i := 1) rfl)) (fun _ h9 => h9) rfl dX1_plus_24 ?_
  refine lv_iload_n hx hb dX1_plus_27 rfl (lv_at hl 3 rfl) ?_
  refine va_iald hx hb hK hP 1 0 rfl rfl (by assumption) dX1_plus_28 ?_
  refine lv_iadd hx hb dX1_plus_29 ?_
  refine lv_i2l hx hb dX1_plus_30 rfl ?_
  refine lv_iload hx hb dX1_plus_31 (lv_at hl 4 rfl) ?_
  refine ny_l (wc := [(o, .inr (3, [.ref q1, .ref q2, .ref q3, .ref q4])), (q1, .inl (cI, 12, .inl hf)), (q2, .inl (cZ, 12, .inl bf))]) (wr := []) hP hD hS hA [0, 1, 2] [] rfl rfl (by decide) (by decide) (va_runV (As := [.int i0, .long (((hf i1.toNatClampNeg) + (hf i2.toNatClampNeg)).toInt64), .int i3]) (rest := []) ⟨hx, hb, hml, hown, hts⟩ (c_X1_keepResidue l D cI cZ o q1 q2 q3 q4 s.heap.size hf bf i0 (((hf i1.toNatClampNeg) + (hf i2.toNatClampNeg)).toInt64) i3 (by assumption) (by assumption) (by assumption) (by assumption) (n_lo _)) (cwV 3 hts gX1_plus_X1_keepResidue rfl rfl rfl (by decide +kernel) ⟨Nat.le_of_ble_eq_true rfl, Nat.le_of_ble_eq_true rfl⟩) ⟨ny_blind, va_recv hK hP (ci := 3) (q0 := 0) rfl rfl, fun U hU hW => ⟨rfl, ny_preU hE hP hK hD hS hA [0, 1, 2] rfl (by decide) rfl [0, 1] rfl U hU hW⟩⟩ rfl rfl hl.1 rfl (lv_room (Nat.le_of_ble_eq_true rfl)) dX1_plus_33 ⟨Nat.le_of_ble_eq_true rfl, Nat.le_of_ble_eq_true rfl⟩) (fun r_33 u H locs hw_33 hP hD hS => ?_)
  have hP : va_P D vwCl [(o, .inr (3, [.ref q1, .ref q2, .ref q3, .ref q4])), (q1, .inl (cI, 12, .inl (upd hf i0.toNatClampNeg (f_rs (((hf i1.toNatClampNeg) + (hf i2.toNatClampNeg)).toInt64) (hf i3.toNatClampNeg))))), (q2, .inl (cZ, 12, .inl (upd bf i0.toNatClampNeg 0)))] H := hP
  have hD : va_D A [(o, .inr (3, [.ref q1, .ref q2, .ref q3, .ref q4])), (q1, .inl (cI, 12, .inl (upd hf i0.toNatClampNeg (f_rs (((hf i1.toNatClampNeg) + (hf i2.toNatClampNeg)).toInt64) (hf i3.toNatClampNeg))))), (q2, .inl (cZ, 12, .inl (upd bf i0.toNatClampNeg 0)))] := hD
  have hw_33 : r_33 = f_bt (f_rs (((hf i1.toNatClampNeg) + (hf i2.toNatClampNeg)).toInt64) (hf i3.toNatClampNeg)) 0 := hw_33
  subst hw_33
  have hP9 := hP.sub (ws' := [(o, .inr (3, [.ref q1, .ref q2, .ref q3, .ref q4])), (q1, .inl (cI, 12, .inl (upd hf i0.toNatClampNeg (f_rs (((hf i1.toNatClampNeg) + (hf i2.toNatClampNeg)).toInt64) (hf i3.toNatClampNeg))))), (q2, .inl (cZ, 12, .inl (upd bf i0.toNatClampNeg 0)))]) [0, 1, 2] rfl
  have hD9 := hD.sub (ws' := [(o, .inr (3, [.ref q1, .ref q2, .ref q3, .ref q4])), (q1, .inl (cI, 12, .inl (upd hf i0.toNatClampNeg (f_rs (((hf i1.toNatClampNeg) + (hf i2.toNatClampNeg)).toInt64) (hf i3.toNatClampNeg))))), (q2, .inl (cZ, 12, .inl (upd bf i0.toNatClampNeg 0)))]) [0, 1, 2] (by decide) rfl
  exact W.lret (v := f_bt (f_rs (((hf i1.toNatClampNeg) + (hf i2.toNatClampNeg)).toInt64) (hf i3.toNatClampNeg)) 0) hx hb hr (fun t ht hW => ⟨⟨f_bt (f_rs (((hf i1.toNatClampNeg) + (hf i2.toNatClampNeg)).toInt64) (hf i3.toNatClampNeg)) 0, (), rfl, (rfl), by rw [ht]; exact hP9, va_K.moved hW.alike hK, hD9⟩, hS.F ht⟩) hS.2.2 dX1_plus_36
set_option maxHeartbeats 4000000 in
set_option maxRecDepth 100000 in
theorem c_X1_plus_noP (l : Launch) (D : va_G) (cI : ClassId) (cZ : ClassId) (o : Nat) (q1 : Nat) (q2 : Nat) (q3 : Nat) (q4 : Nat) (sz : Nat) (hf : Nat → Int32) (bf : Nat → Int32) (i0 : Int32) (i1 : Int32) (i2 : Int32) (i3 : Int32) (gl : l.stackTraces = false) (gb : ¬ vp_in i0 12 ∨ (¬ vp_in i2 12 ∨ (¬ vp_in i1 12 ∨ ¬ vp_in i3 12))) : vx_Met l yX1_plus wsX1_plus ({ frames := 8, cells := 1, slots := 6, locals := 132 }) (va_Pc [.ref o, .int i0, .int i1, .int i2, .int i3] (ny_pre D [(cI, .int), (cZ, .boolean)] [(o, .inr (3, [.ref q1, .ref q2, .ref q3, .ref q4])), (q1, .inl (cI, 12, .inl hf)), (q2, .inl (cZ, 12, .inl bf))] sz)) (fun _ _ _ _ => False) (vx_X (fun _ : Unit => True) (fun E' _ _ => E' = ny_IO) (fun _ => False)) 1 6 (va_A [(o, .inr (3, [.ref q1, .ref q2, .ref q3, .ref q4])), (q1, .inl (cI, 12, .inl hf)), (q2, .inl (cZ, 12, .inl bf))] sz) := by
  refine vx_ofW (cc := cX1_plus) (maxL := 5) (ret := (some .long)) (by decide) rfl ?_
  intro p e s m args below meth c s₁ B hml ht hv
  obtain ⟨rfl, hsz, hP, hK, hD0, hE⟩ := hv
  have hx := B.exec
  have hb := B.bytes
  have hr := B.returns
  have hts := atoms_spec (ws := wsX1_plus) B.pre
  have hown : s.vm.findClass RX1 = some m.cls := findClass_of_methodNamed B.named
  have hlocks := B.notSynchronized
  subst hsz
  have hD := hD0.self (sz := s.heap.size)
  generalize hAe : va_A [(o, .inr (3, [.ref q1, .ref q2, .ref q3, .ref q4])), (q1, .inl (cI, 12, .inl hf)), (q2, .inl (cZ, 12, .inl bf))] s.heap.size = A at hD hE ⊢
  have hA : ∀ q : Nat, s.heap.size ≤ q → A q := fun q h => by rw [← hAe]; exact Or.inr h
  have hS : va_S A s.heap s.heap [] := va_S.rf
  have hl := lv_entry ([.ref o, .int i0, .int i1, .int i2, .int i3]) (n := 5) (Nat.le_of_ble_eq_true rfl)
  rw [lg_entry_eq]
  generalize (lg_sl ([.ref o, .int i0, .int i1, .int i2, .int i3]) ++ List.replicate (5 - (lg_sl ([.ref o, .int i0, .int i1, .int i2, .int i3])).length) Slot.unset).toArray = ls at hl ⊢
  have hl : lv_has ls 5 [(0, .ref o), (1, .int i0), (2, .int i1), (3, .int i2), (4, .int i3)] := hl
  refine lv_iload_n hx hb dX1_plus_0 rfl (lv_at hl 1 rfl) ?_
  by_cases q_1 : vp_in i0 12
  · have gb := gb.resolve_left (fun h => h q_1)
    refine va_csv (va_Run.run (va_runS (As := [.int i0]) (rest := []) ⟨hx, hb, hml, hown, hts⟩ (c_X1_needPlace l i0 (by assumption)) (va_cwS 1 hts gX1_plus_X1_needPlace rfl rfl rfl (by decide +kernel) ⟨Nat.le_of_ble_eq_true rfl, Nat.le_of_ble_eq_true rfl⟩) ⟨ny_blindT, fun U hU hW => ⟨rfl, trivial⟩⟩ rfl rfl hl.1 rfl (lv_room (Nat.le_of_ble_eq_true rfl)) dX1_plus_1 ⟨Nat.le_of_ble_eq_true rfl, Nat.le_of_ble_eq_true rfl⟩)) (fun hw => ?_)
    refine lv_iload_n hx hb dX1_plus_4 rfl (lv_at hl 3 rfl) ?_
    by_cases q_5 : vp_in i2 12
    · have gb := gb.resolve_left (fun h => h q_5)
      refine va_csv (va_Run.run (va_runS (As := [.int i2]) (rest := []) ⟨hx, hb, hml, hown, hts⟩ (c_X1_needPlace l i2 (by assumption)) (va_cwS 1 hts gX1_plus_X1_needPlace rfl rfl rfl (by decide +kernel) ⟨Nat.le_of_ble_eq_true rfl, Nat.le_of_ble_eq_true rfl⟩) ⟨ny_blindT, fun U hU hW => ⟨rfl, trivial⟩⟩ rfl rfl hl.1 rfl (lv_room (Nat.le_of_ble_eq_true rfl)) dX1_plus_5 ⟨Nat.le_of_ble_eq_true rfl, Nat.le_of_ble_eq_true rfl⟩)) (fun hw => ?_)
      refine lv_aload_n hx hb dX1_plus_8 rfl (lv_at hl 0 rfl) ?_
      refine lv_iload_n hx hb dX1_plus_9 rfl (lv_at hl 2 rfl) ?_
      refine lv_iload hx hb dX1_plus_10 (lv_at hl 4 rfl) ?_
      exact ny_th hS (va_free (wc := [(o, .inr (3, [.ref q1, .ref q2, .ref q3, .ref q4])), (q1, .inl (cI, 12, .inl hf)), (q2, .inl (cZ, 12, .inl bf))]) hD hS hA [0, 1, 2] rfl) ht hlocks (Nat.le_of_ble_eq_true rfl) (Nat.le_of_ble_eq_true rfl) (vx_runV (As := [.int i1, .int i3]) (rest := []) ⟨hx, hb, hml, hown, hts⟩ (c_X1_needDivision_noP l D cI cZ o q1 q2 q3 q4 s.heap.size hf bf i1 i3 (by assumption) (by assumption)) (cwV 2 hts gX1_plus_X1_needDivision rfl rfl rfl (by decide +kernel) ⟨Nat.le_of_ble_eq_true rfl, Nat.le_of_ble_eq_true rfl⟩) ⟨ny_blind, va_recv hK hP (ci := 3) (q0 := 0) rfl rfl, fun U hU hW => ⟨rfl, ny_preU hE hP hK hD hS hA [0, 1, 2] rfl (by decide) rfl [0, 1] rfl U hU hW⟩⟩ rfl rfl hl.1 rfl (lv_room (Nat.le_of_ble_eq_true rfl)) dX1_plus_12 ⟨Nat.le_of_ble_eq_true rfl, Nat.le_of_ble_eq_true rfl⟩)
    · exact ny_th hS (va_free (wc := []) hD hS hA [] rfl) ht hlocks (Nat.le_of_ble_eq_true rfl) (Nat.le_of_ble_eq_true rfl) (vx_runS (As := [.int i2]) (rest := []) ⟨hx, hb, hml, hown, hts⟩ (c_X1_needPlace_no l D s.heap.size i2 (by assumption) (by assumption)) (va_cwS 1 hts gX1_plus_X1_needPlace rfl rfl rfl (by decide +kernel) ⟨Nat.le_of_ble_eq_true rfl, Nat.le_of_ble_eq_true rfl⟩) ⟨ny_blind, fun U hU hW => ⟨rfl, ny_preU hE hP hK hD hS hA [] rfl (by decide) rfl [] rfl U hU hW⟩⟩ rfl rfl hl.1 rfl (lv_room (Nat.le_of_ble_eq_true rfl)) dX1_plus_5 ⟨Nat.le_of_ble_eq_true rfl, Nat.le_of_ble_eq_true rfl⟩)
  · exact ny_th hS (va_free (wc := []) hD hS hA [] rfl) ht hlocks (Nat.le_of_ble_eq_true rfl) (Nat.le_of_ble_eq_true rfl) (vx_runS (As := [.int i0]) (rest := []) ⟨hx, hb, hml, hown, hts⟩ (c_X1_needPlace_no l D s.heap.size i0 (by assumption) (by assumption)) (va_cwS 1 hts gX1_plus_X1_needPlace rfl rfl rfl (by decide +kernel) ⟨Nat.le_of_ble_eq_true rfl, Nat.le_of_ble_eq_true rfl⟩) ⟨ny_blind, fun U hU hW => ⟨rfl, ny_preU hE hP hK hD hS hA [] rfl (by decide) rfl [] rfl U hU hW⟩⟩ rfl rfl hl.1 rfl (lv_room (Nat.le_of_ble_eq_true rfl)) dX1_plus_1 ⟨Nat.le_of_ble_eq_true rfl, Nat.le_of_ble_eq_true rfl⟩)
set_option maxHeartbeats 4000000 in
set_option maxRecDepth 100000 in
theorem c_X1_plus_no0 (l : Launch) (D : va_G) (cI : ClassId) (cZ : ClassId) (o : Nat) (q1 : Nat) (q2 : Nat) (q3 : Nat) (q4 : Nat) (sz : Nat) (hf : Nat → Int32) (bf : Nat → Int32) (i0 : Int32) (i1 : Int32) (i2 : Int32) (i3 : Int32) (gl : l.stackTraces = false) (gp0 : vp_in i0 12) (gp1 : vp_in i1 12) (gp2 : vp_in i2 12) (gp3 : vp_in i3 12) (g0 : hf i3.toNatClampNeg = 0) : vx_Met l yX1_plus wsX1_plus ({ frames := 7, cells := 1, slots := 6, locals := 112 }) (va_Pc [.ref o, .int i0, .int i1, .int i2, .int i3] (ny_pre D [(cI, .int), (cZ, .boolean)] [(o, .inr (3, [.ref q1, .ref q2, .ref q3, .ref q4])), (q1, .inl (cI, 12, .inl hf)), (q2, .inl (cZ, 12, .inl bf))] sz)) (fun _ _ _ _ => False) (vx_X (fun _ : Unit => True) (fun E' _ _ => E' = ny_AE) (fun _ => False)) 1 6 (va_A [(o, .inr (3, [.ref q1, .ref q2, .ref q3, .ref q4])), (q1, .inl (cI, 12, .inl hf)), (q2, .inl (cZ, 12, .inl bf))] sz) := by
  refine vx_ofW (cc := cX1_plus) (maxL := 5) (ret := (some .long)) (by decide) rfl ?_
  intro p e s m args below meth c s₁ B hml ht hv
  obtain ⟨rfl, hsz, hP, hK, hD0, hE⟩ := hv
  have hx := B.exec
  have hb := B.bytes
  have hr := B.returns
  have hts := atoms_spec (ws := wsX1_plus) B.pre
  have hown : s.vm.findClass RX1 = some m.cls := findClass_of_methodNamed B.named
  have hlocks := B.notSynchronized
  subst hsz
  have hD := hD0.self (sz := s.heap.size)
  generalize hAe : va_A [(o, .inr (3, [.ref q1, .ref q2, .ref q3, .ref q4])), (q1, .inl (cI, 12, .inl hf)), (q2, .inl (cZ, 12, .inl bf))] s.heap.size = A at hD hE ⊢
  have hA : ∀ q : Nat, s.heap.size ≤ q → A q := fun q h => by rw [← hAe]; exact Or.inr h
  have hS : va_S A s.heap s.heap [] := va_S.rf
  have hl := lv_entry ([.ref o, .int i0, .int i1, .int i2, .int i3]) (n := 5) (Nat.le_of_ble_eq_true rfl)
  rw [lg_entry_eq]
  generalize (lg_sl ([.ref o, .int i0, .int i1, .int i2, .int i3]) ++ List.replicate (5 - (lg_sl ([.ref o, .int i0, .int i1, .int i2, .int i3])).length) Slot.unset).toArray = ls at hl ⊢
  have hl : lv_has ls 5 [(0, .ref o), (1, .int i0), (2, .int i1), (3, .int i2), (4, .int i3)] := hl
  refine lv_iload_n hx hb dX1_plus_0 rfl (lv_at hl 1 rfl) ?_
  refine va_csv (va_Run.run (va_runS (As := [.int i0]) (rest := []) ⟨hx, hb, hml, hown, hts⟩ (c_X1_needPlace l i0 (by assumption)) (va_cwS 1 hts gX1_plus_X1_needPlace rfl rfl rfl (by decide +kernel) ⟨Nat.le_of_ble_eq_true rfl, Nat.le_of_ble_eq_true rfl⟩) ⟨ny_blindT, fun U hU hW => ⟨rfl, trivial⟩⟩ rfl rfl hl.1 rfl (lv_room (Nat.le_of_ble_eq_true rfl)) dX1_plus_1 ⟨Nat.le_of_ble_eq_true rfl, Nat.le_of_ble_eq_true rfl⟩)) (fun hw => ?_)
  refine lv_iload_n hx hb dX1_plus_4 rfl (lv_at hl 3 rfl) ?_
  refine va_csv (va_Run.run (va_runS (As := [.int i2]) (rest := []) ⟨hx, hb, hml, hown, hts⟩ (c_X1_needPlace l i2 (by assumption)) (va_cwS 1 hts gX1_plus_X1_needPlace rfl rfl rfl (by decide +kernel) ⟨Nat.le_of_ble_eq_true rfl, Nat.le_of_ble_eq_true rfl⟩) ⟨ny_blindT, fun U hU hW => ⟨rfl, trivial⟩⟩ rfl rfl hl.1 rfl (lv_room (Nat.le_of_ble_eq_true rfl)) dX1_plus_5 ⟨Nat.le_of_ble_eq_true rfl, Nat.le_of_ble_eq_true rfl⟩)) (fun hw => ?_)
  refine lv_aload_n hx hb dX1_plus_8 rfl (lv_at hl 0 rfl) ?_
  refine lv_iload_n hx hb dX1_plus_9 rfl (lv_at hl 2 rfl) ?_
  refine lv_iload hx hb dX1_plus_10 (lv_at hl 4 rfl) ?_
  exact ny_th hS (va_free (wc := [(o, .inr (3, [.ref q1, .ref q2, .ref q3, .ref q4])), (q1, .inl (cI, 12, .inl hf)), (q2, .inl (cZ, 12, .inl bf))]) hD hS hA [0, 1, 2] rfl) ht hlocks (Nat.le_of_ble_eq_true rfl) (Nat.le_of_ble_eq_true rfl) (vx_runV (As := [.int i1, .int i3]) (rest := []) ⟨hx, hb, hml, hown, hts⟩ (c_X1_needDivision_no0 l D cI cZ o q1 q2 q3 q4 s.heap.size hf bf i1 i3 (by assumption) (by assumption) (by assumption) (by assumption)) (cwV 2 hts gX1_plus_X1_needDivision rfl rfl rfl (by decide +kernel) ⟨Nat.le_of_ble_eq_true rfl, Nat.le_of_ble_eq_true rfl⟩) ⟨ny_blind, va_recv hK hP (ci := 3) (q0 := 0) rfl rfl, fun U hU hW => ⟨rfl, ny_preU hE hP hK hD hS hA [0, 1, 2] rfl (by decide) rfl [0, 1] rfl U hU hW⟩⟩ rfl rfl hl.1 rfl (lv_room (Nat.le_of_ble_eq_true rfl)) dX1_plus_12 ⟨Nat.le_of_ble_eq_true rfl, Nat.le_of_ble_eq_true rfl⟩)
theorem in_X1_minus_X1 : ∀ w ∈ wsX10, w ∈ wsX1_minus := (fun _ h => List.mem_cons_of_mem _ (List.mem_append_left _ (List.mem_append_left _ (List.mem_append_left _ (List.mem_append_left _ (List.mem_append_right _ h))))))
set_option maxHeartbeats 4000000 in
set_option maxRecDepth 100000 in
theorem c_X1_minus (l : Launch) (D : va_G) (cI : ClassId) (cZ : ClassId) (o : Nat) (q1 : Nat) (q2 : Nat) (q3 : Nat) (q4 : Nat) (sz : Nat) (hf : Nat → Int32) (bf : Nat → Int32) (i0 : Int32) (i1 : Int32) (i2 : Int32) (i3 : Int32) (gp0 : vp_in i0 12) (gp1 : vp_in i1 12) (gp2 : vp_in i2 12) (gp3 : vp_in i3 12) (g0 : ¬ hf i3.toNatClampNeg = 0) (gH : ny_H hf) : Met l yX1_minus wsX1_minus ({ frames := 5, cells := 0, slots := 0, locals := 119 }) (va_Pc [.ref o, .int i0, .int i1, .int i2, .int i3] (ny_pre D [(cI, .int), (cZ, .boolean)] [(o, .inr (3, [.ref q1, .ref q2, .ref q3, .ref q4])), (q1, .inl (cI, 12, .inl hf)), (q2, .inl (cZ, 12, .inl bf))] sz)) (va_Ql (fun (r : Int64) (u : Unit) => r = f_bt (f_rs ((hf i1.toNatClampNeg - hf i2.toNatClampNeg).toInt64) (hf i3.toNatClampNeg)) 0) (fun (u : Unit) t => ny_at D [(cI, .int), (cZ, .boolean)] (va_A [(o, .inr (3, [.ref q1, .ref q2, .ref q3, .ref q4])), (q1, .inl (cI, 12, .inl hf)), (q2, .inl (cZ, 12, .inl bf))] sz) [(o, .inr (3, [.ref q1, .ref q2, .ref q3, .ref q4])), (q1, .inl (cI, 12, .inl (upd hf i0.toNatClampNeg (f_rs ((hf i1.toNatClampNeg - hf i2.toNatClampNeg).toInt64) (hf i3.toNatClampNeg))))), (q2, .inl (cZ, 12, .inl (upd bf i0.toNatClampNeg 0)))] t) (va_A [(o, .inr (3, [.ref q1, .ref q2, .ref q3, .ref q4])), (q1, .inl (cI, 12, .inl hf)), (q2, .inl (cZ, 12, .inl bf))] sz)) 0 0 (va_A [(o, .inr (3, [.ref q1, .ref q2, .ref q3, .ref q4])), (q1, .inl (cI, 12, .inl hf)), (q2, .inl (cZ, 12, .inl bf))] sz) := by
  refine Met.ofW (cc := cX1_minus) (maxL := 5) (ret := (some .long)) (by decide) rfl ?_
  intro p e s m args below meth c s₁ B hml hv
  obtain ⟨rfl, hsz, hP, hK, hD0, hE⟩ := hv
  have hx := B.exec
  have hb := B.bytes
  have hr := B.returns
  have hts := atoms_spec (ws := wsX1_minus) B.pre
  have hown : s.vm.findClass RX1 = some m.cls := findClass_of_methodNamed B.named
  have hlocks := B.notSynchronized
  subst hsz
  have hD := hD0.self (sz := s.heap.size)
  generalize hAe : va_A [(o, .inr (3, [.ref q1, .ref q2, .ref q3, .ref q4])), (q1, .inl (cI, 12, .inl hf)), (q2, .inl (cZ, 12, .inl bf))] s.heap.size = A at hD hE ⊢
  have hA : ∀ q : Nat, s.heap.size ≤ q → A q := fun q h => by rw [← hAe]; exact Or.inr h
  have hS : va_S A s.heap s.heap [] := va_S.rf
  have hl := lv_entry ([.ref o, .int i0, .int i1, .int i2, .int i3]) (n := 5) (Nat.le_of_ble_eq_true rfl)
  rw [lg_entry_eq]
  generalize (lg_sl ([.ref o, .int i0, .int i1, .int i2, .int i3]) ++ List.replicate (5 - (lg_sl ([.ref o, .int i0, .int i1, .int i2, .int i3])).length) Slot.unset).toArray = ls at hl ⊢
  have hl : lv_has ls 5 [(0, .ref o), (1, .int i0), (2, .int i1), (3, .int i2), (4, .int i3)] := hl
  refine lv_iload_n hx hb dX1_minus_0 rfl (lv_at hl 1 rfl) ?_
  refine va_csv (va_Run.run (va_runS (As := [.int i0]) (rest := []) ⟨hx, hb, hml, hown, hts⟩ (c_X1_needPlace l i0 (by assumption)) (va_cwS 1 hts gX1_minus_X1_needPlace rfl rfl rfl (by decide +kernel) ⟨Nat.le_of_ble_eq_true rfl, Nat.le_of_ble_eq_true rfl⟩) ⟨ny_blindT, fun U hU hW => ⟨rfl, trivial⟩⟩ rfl rfl hl.1 rfl (lv_room (Nat.le_of_ble_eq_true rfl)) dX1_minus_1 ⟨Nat.le_of_ble_eq_true rfl, Nat.le_of_ble_eq_true rfl⟩)) (fun hw => ?_)
  refine lv_iload_n hx hb dX1_minus_4 rfl (lv_at hl 3 rfl) ?_
  refine va_csv (va_Run.run (va_runS (As := [.int i2]) (rest := []) ⟨hx, hb, hml, hown, hts⟩ (c_X1_needPlace l i2 (by assumption)) (va_cwS 1 hts gX1_minus_X1_needPlace rfl rfl rfl (by decide +kernel) ⟨Nat.le_of_ble_eq_true rfl, Nat.le_of_ble_eq_true rfl⟩) ⟨ny_blindT, fun U hU hW => ⟨rfl, trivial⟩⟩ rfl rfl hl.1 rfl (lv_room (Nat.le_of_ble_eq_true rfl)) dX1_minus_5 ⟨Nat.le_of_ble_eq_true rfl, Nat.le_of_ble_eq_true rfl⟩)) (fun hw => ?_)
  refine lv_aload_n hx hb dX1_minus_8 rfl (lv_at hl 0 rfl) ?_
  refine lv_iload_n hx hb dX1_minus_9 rfl (lv_at hl 2 rfl) ?_
  refine lv_iload hx hb dX1_minus_10 (lv_at hl 4 rfl) ?_
  refine va_csv (va_Run.run (va_runV (As := [.int i1, .int i3]) (rest := []) ⟨hx, hb, hml, hown, hts⟩ (c_X1_needDivision l D cI cZ o q1 q2 q3 q4 s.heap.size hf bf i1 i3 (by assumption) (by assumption) (by assumption)) (cwV 2 hts gX1_minus_X1_needDivision rfl rfl rfl (by decide +kernel) ⟨Nat.le_of_ble_eq_true rfl, Nat.le_of_ble_eq_true rfl⟩) ⟨ny_blind, va_recv hK hP (ci := 3) (q0 := 0) rfl rfl, fun U hU hW => ⟨rfl, ny_preU hE hP hK hD hS hA [0, 1, 2] rfl (by decide) rfl [0, 1] rfl U hU hW⟩⟩ rfl rfl hl.1 rfl (lv_room (Nat.le_of_ble_eq_true rfl)) dX1_minus_12 ⟨Nat.le_of_ble_eq_true rfl, Nat.le_of_ble_eq_true rfl⟩)) (fun hw => ?_)
  refine lv_aload_n hx hb dX1_minus_15 rfl (lv_at hl 0 rfl) ?_
  refine lv_iload_n hx hb dX1_minus_16 rfl (lv_at hl 1 rfl) ?_
  refine lv_aload_n hx hb dX1_minus_17 rfl (lv_at hl 0 rfl) ?_
  refine va_get (D := D) (ci := 3) (v := .ref q1) (C := RX1) (T := TX1) (N := 4) hx hb hts in_X1_minus_X1 hown hK hP 0 rfl rfl 0 (by decide) (hts (.fieldLink RX1 9 "Nearestclock" "held" "[I") (List.mem_of_getElem? (i := 1) rfl)) (fun _ h9 => h9) rfl dX1_minus_18 ?_
  refine lv_iload_n hx hb dX1_minus_21 rfl (lv_at hl 2 rfl) ?_
  refine va_iald hx hb hK hP 1 0 rfl rfl (by assumption) dX1_minus_22 ?_
  refine lv_aload_n hx hb dX1_minus_23 rfl (lv_at hl 0 rfl) ?_
  refine va_get (D := D) (ci := 3) (v := .ref q1) (C := RX1) (T := TX1) (N := 4) hx hb hts in_X1_minus_X1 hown hK hP 0 rfl rfl 0 (by decide) (hts (.fieldLink RX1 9 "Nearestclock" "held" "[I") (List.mem_of_getElem? (i := 1) rfl)) (fun _ h9 => h9) rfl dX1_minus_24 ?_
  refine lv_iload_n hx hb dX1_minus_27 rfl (lv_at hl 3 rfl) ?_
  refine va_iald hx hb hK hP 1 0 rfl rfl (by assumption) dX1_minus_28 ?_
  refine lv_isub hx hb dX1_minus_29 ?_
  refine lv_i2l hx hb dX1_minus_30 rfl ?_
  refine lv_iload hx hb dX1_minus_31 (lv_at hl 4 rfl) ?_
  refine ny_l (wc := [(o, .inr (3, [.ref q1, .ref q2, .ref q3, .ref q4])), (q1, .inl (cI, 12, .inl hf)), (q2, .inl (cZ, 12, .inl bf))]) (wr := []) hP hD hS hA [0, 1, 2] [] rfl rfl (by decide) (by decide) (va_runV (As := [.int i0, .long (((hf i1.toNatClampNeg) - (hf i2.toNatClampNeg)).toInt64), .int i3]) (rest := []) ⟨hx, hb, hml, hown, hts⟩ (c_X1_keepResidue l D cI cZ o q1 q2 q3 q4 s.heap.size hf bf i0 (((hf i1.toNatClampNeg) - (hf i2.toNatClampNeg)).toInt64) i3 (by assumption) (by assumption) (by assumption) (by assumption) (n_lo _)) (cwV 3 hts gX1_minus_X1_keepResidue rfl rfl rfl (by decide +kernel) ⟨Nat.le_of_ble_eq_true rfl, Nat.le_of_ble_eq_true rfl⟩) ⟨ny_blind, va_recv hK hP (ci := 3) (q0 := 0) rfl rfl, fun U hU hW => ⟨rfl, ny_preU hE hP hK hD hS hA [0, 1, 2] rfl (by decide) rfl [0, 1] rfl U hU hW⟩⟩ rfl rfl hl.1 rfl (lv_room (Nat.le_of_ble_eq_true rfl)) dX1_minus_33 ⟨Nat.le_of_ble_eq_true rfl, Nat.le_of_ble_eq_true rfl⟩) (fun r_33 u H locs hw_33 hP hD hS => ?_)
  have hP : va_P D vwCl [(o, .inr (3, [.ref q1, .ref q2, .ref q3, .ref q4])), (q1, .inl (cI, 12, .inl (upd hf i0.toNatClampNeg (f_rs (((hf i1.toNatClampNeg) - (hf i2.toNatClampNeg)).toInt64) (hf i3.toNatClampNeg))))), (q2, .inl (cZ, 12, .inl (upd bf i0.toNatClampNeg 0)))] H := hP
  have hD : va_D A [(o, .inr (3, [.ref q1, .ref q2, .ref q3, .ref q4])), (q1, .inl (cI, 12, .inl (upd hf i0.toNatClampNeg (f_rs (((hf i1.toNatClampNeg) - (hf i2.toNatClampNeg)).toInt64) (hf i3.toNatClampNeg))))), (q2, .inl (cZ, 12, .inl (upd bf i0.toNatClampNeg 0)))] := hD
  have hw_33 : r_33 = f_bt (f_rs (((hf i1.toNatClampNeg) - (hf i2.toNatClampNeg)).toInt64) (hf i3.toNatClampNeg)) 0 := hw_33
  subst hw_33
  have hP9 := hP.sub (ws' := [(o, .inr (3, [.ref q1, .ref q2, .ref q3, .ref q4])), (q1, .inl (cI, 12, .inl (upd hf i0.toNatClampNeg (f_rs (((hf i1.toNatClampNeg) - (hf i2.toNatClampNeg)).toInt64) (hf i3.toNatClampNeg))))), (q2, .inl (cZ, 12, .inl (upd bf i0.toNatClampNeg 0)))]) [0, 1, 2] rfl
  have hD9 := hD.sub (ws' := [(o, .inr (3, [.ref q1, .ref q2, .ref q3, .ref q4])), (q1, .inl (cI, 12, .inl (upd hf i0.toNatClampNeg (f_rs (((hf i1.toNatClampNeg) - (hf i2.toNatClampNeg)).toInt64) (hf i3.toNatClampNeg))))), (q2, .inl (cZ, 12, .inl (upd bf i0.toNatClampNeg 0)))]) [0, 1, 2] (by decide) rfl
  exact W.lret (v := f_bt (f_rs (((hf i1.toNatClampNeg) - (hf i2.toNatClampNeg)).toInt64) (hf i3.toNatClampNeg)) 0) hx hb hr (fun t ht hW => ⟨⟨f_bt (f_rs (((hf i1.toNatClampNeg) - (hf i2.toNatClampNeg)).toInt64) (hf i3.toNatClampNeg)) 0, (), rfl, (rfl), by rw [ht]; exact hP9, va_K.moved hW.alike hK, hD9⟩, hS.F ht⟩) hS.2.2 dX1_minus_36
set_option maxHeartbeats 4000000 in
set_option maxRecDepth 100000 in
theorem c_X1_minus_noP (l : Launch) (D : va_G) (cI : ClassId) (cZ : ClassId) (o : Nat) (q1 : Nat) (q2 : Nat) (q3 : Nat) (q4 : Nat) (sz : Nat) (hf : Nat → Int32) (bf : Nat → Int32) (i0 : Int32) (i1 : Int32) (i2 : Int32) (i3 : Int32) (gl : l.stackTraces = false) (gb : ¬ vp_in i0 12 ∨ (¬ vp_in i2 12 ∨ (¬ vp_in i1 12 ∨ ¬ vp_in i3 12))) : vx_Met l yX1_minus wsX1_minus ({ frames := 8, cells := 1, slots := 6, locals := 132 }) (va_Pc [.ref o, .int i0, .int i1, .int i2, .int i3] (ny_pre D [(cI, .int), (cZ, .boolean)] [(o, .inr (3, [.ref q1, .ref q2, .ref q3, .ref q4])), (q1, .inl (cI, 12, .inl hf)), (q2, .inl (cZ, 12, .inl bf))] sz)) (fun _ _ _ _ => False) (vx_X (fun _ : Unit => True) (fun E' _ _ => E' = ny_IO) (fun _ => False)) 1 6 (va_A [(o, .inr (3, [.ref q1, .ref q2, .ref q3, .ref q4])), (q1, .inl (cI, 12, .inl hf)), (q2, .inl (cZ, 12, .inl bf))] sz) := by
  refine vx_ofW (cc := cX1_minus) (maxL := 5) (ret := (some .long)) (by decide) rfl ?_
  intro p e s m args below meth c s₁ B hml ht hv
  obtain ⟨rfl, hsz, hP, hK, hD0, hE⟩ := hv
  have hx := B.exec
  have hb := B.bytes
  have hr := B.returns
  have hts := atoms_spec (ws := wsX1_minus) B.pre
  have hown : s.vm.findClass RX1 = some m.cls := findClass_of_methodNamed B.named
  have hlocks := B.notSynchronized
  subst hsz
  have hD := hD0.self (sz := s.heap.size)
  generalize hAe : va_A [(o, .inr (3, [.ref q1, .ref q2, .ref q3, .ref q4])), (q1, .inl (cI, 12, .inl hf)), (q2, .inl (cZ, 12, .inl bf))] s.heap.size = A at hD hE ⊢
  have hA : ∀ q : Nat, s.heap.size ≤ q → A q := fun q h => by rw [← hAe]; exact Or.inr h
  have hS : va_S A s.heap s.heap [] := va_S.rf
  have hl := lv_entry ([.ref o, .int i0, .int i1, .int i2, .int i3]) (n := 5) (Nat.le_of_ble_eq_true rfl)
  rw [lg_entry_eq]
  generalize (lg_sl ([.ref o, .int i0, .int i1, .int i2, .int i3]) ++ List.replicate (5 - (lg_sl ([.ref o, .int i0, .int i1, .int i2, .int i3])).length) Slot.unset).toArray = ls at hl ⊢
  have hl : lv_has ls 5 [(0, .ref o), (1, .int i0), (2, .int i1), (3, .int i2), (4, .int i3)] := hl
  refine lv_iload_n hx hb dX1_minus_0 rfl (lv_at hl 1 rfl) ?_
  by_cases q_1 : vp_in i0 12
  · have gb := gb.resolve_left (fun h => h q_1)
    refine va_csv (va_Run.run (va_runS (As := [.int i0]) (rest := []) ⟨hx, hb, hml, hown, hts⟩ (c_X1_needPlace l i0 (by assumption)) (va_cwS 1 hts gX1_minus_X1_needPlace rfl rfl rfl (by decide +kernel) ⟨Nat.le_of_ble_eq_true rfl, Nat.le_of_ble_eq_true rfl⟩) ⟨ny_blindT, fun U hU hW => ⟨rfl, trivial⟩⟩ rfl rfl hl.1 rfl (lv_room (Nat.le_of_ble_eq_true rfl)) dX1_minus_1 ⟨Nat.le_of_ble_eq_true rfl, Nat.le_of_ble_eq_true rfl⟩)) (fun hw => ?_)
    refine lv_iload_n hx hb dX1_minus_4 rfl (lv_at hl 3 rfl) ?_
    by_cases q_5 : vp_in i2 12
    · have gb := gb.resolve_left (fun h => h q_5)
      refine va_csv (va_Run.run (va_runS (As := [.int i2]) (rest := []) ⟨hx, hb, hml, hown, hts⟩ (c_X1_needPlace l i2 (by assumption)) (va_cwS 1 hts gX1_minus_X1_needPlace rfl rfl rfl (by decide +kernel) ⟨Nat.le_of_ble_eq_true rfl, Nat.le_of_ble_eq_true rfl⟩) ⟨ny_blindT, fun U hU hW => ⟨rfl, trivial⟩⟩ rfl rfl hl.1 rfl (lv_room (Nat.le_of_ble_eq_true rfl)) dX1_minus_5 ⟨Nat.le_of_ble_eq_true rfl, Nat.le_of_ble_eq_true rfl⟩)) (fun hw => ?_)
      refine lv_aload_n hx hb dX1_minus_8 rfl (lv_at hl 0 rfl) ?_
      refine lv_iload_n hx hb dX1_minus_9 rfl (lv_at hl 2 rfl) ?_
      refine lv_iload hx hb dX1_minus_10 (lv_at hl 4 rfl) ?_
      exact ny_th hS (va_free (wc := [(o, .inr (3, [.ref q1, .ref q2, .ref q3, .ref q4])), (q1, .inl (cI, 12, .inl hf)), (q2, .inl (cZ, 12, .inl bf))]) hD hS hA [0, 1, 2] rfl) ht hlocks (Nat.le_of_ble_eq_true rfl) (Nat.le_of_ble_eq_true rfl) (vx_runV (As := [.int i1, .int i3]) (rest := []) ⟨hx, hb, hml, hown, hts⟩ (c_X1_needDivision_noP l D cI cZ o q1 q2 q3 q4 s.heap.size hf bf i1 i3 (by assumption) (by assumption)) (cwV 2 hts gX1_minus_X1_needDivision rfl rfl rfl (by decide +kernel) ⟨Nat.le_of_ble_eq_true rfl, Nat.le_of_ble_eq_true rfl⟩) ⟨ny_blind, va_recv hK hP (ci := 3) (q0 := 0) rfl rfl, fun U hU hW => ⟨rfl, ny_preU hE hP hK hD hS hA [0, 1, 2] rfl (by decide) rfl [0, 1] rfl U hU hW⟩⟩ rfl rfl hl.1 rfl (lv_room (Nat.le_of_ble_eq_true rfl)) dX1_minus_12 ⟨Nat.le_of_ble_eq_true rfl, Nat.le_of_ble_eq_true rfl⟩)
    · exact ny_th hS (va_free (wc := []) hD hS hA [] rfl) ht hlocks (Nat.le_of_ble_eq_true rfl) (Nat.le_of_ble_eq_true rfl) (vx_runS (As := [.int i2]) (rest := []) ⟨hx, hb, hml, hown, hts⟩ (c_X1_needPlace_no l D s.heap.size i2 (by assumption) (by assumption)) (va_cwS 1 hts gX1_minus_X1_needPlace rfl rfl rfl (by decide +kernel) ⟨Nat.le_of_ble_eq_true rfl, Nat.le_of_ble_eq_true rfl⟩) ⟨ny_blind, fun U hU hW => ⟨rfl, ny_preU hE hP hK hD hS hA [] rfl (by decide) rfl [] rfl U hU hW⟩⟩ rfl rfl hl.1 rfl (lv_room (Nat.le_of_ble_eq_true rfl)) dX1_minus_5 ⟨Nat.le_of_ble_eq_true rfl, Nat.le_of_ble_eq_true rfl⟩)
  · exact ny_th hS (va_free (wc := []) hD hS hA [] rfl) ht hlocks (Nat.le_of_ble_eq_true rfl) (Nat.le_of_ble_eq_true rfl) (vx_runS (As := [.int i0]) (rest := []) ⟨hx, hb, hml, hown, hts⟩ (c_X1_needPlace_no l D s.heap.size i0 (by assumption) (by assumption)) (va_cwS 1 hts gX1_minus_X1_needPlace rfl rfl rfl (by decide +kernel) ⟨Nat.le_of_ble_eq_true rfl, Nat.le_of_ble_eq_true rfl⟩) ⟨ny_blind, fun U hU hW => ⟨rfl, ny_preU hE hP hK hD hS hA [] rfl (by decide) rfl [] rfl U hU hW⟩⟩ rfl rfl hl.1 rfl (lv_room (Nat.le_of_ble_eq_true rfl)) dX1_minus_1 ⟨Nat.le_of_ble_eq_true rfl, Nat.le_of_ble_eq_true rfl⟩)
set_option maxHeartbeats 4000000 in
set_option maxRecDepth 100000 in
theorem c_X1_minus_no0 (l : Launch) (D : va_G) (cI : ClassId) (cZ : ClassId) (o : Nat) (q1 : Nat) (q2 : Nat) (q3 : Nat) (q4 : Nat) (sz : Nat) (hf : Nat → Int32) (bf : Nat → Int32) (i0 : Int32) (i1 : Int32) (i2 : Int32) (i3 : Int32) (gl : l.stackTraces = false) (gp0 : vp_in i0 12) (gp1 : vp_in i1 12) (gp2 : vp_in i2 12) (gp3 : vp_in i3 12) (g0 : hf i3.toNatClampNeg = 0) : vx_Met l yX1_minus wsX1_minus ({ frames := 7, cells := 1, slots := 6, locals := 112 }) (va_Pc [.ref o, .int i0, .int i1, .int i2, .int i3] (ny_pre D [(cI, .int), (cZ, .boolean)] [(o, .inr (3, [.ref q1, .ref q2, .ref q3, .ref q4])), (q1, .inl (cI, 12, .inl hf)), (q2, .inl (cZ, 12, .inl bf))] sz)) (fun _ _ _ _ => False) (vx_X (fun _ : Unit => True) (fun E' _ _ => E' = ny_AE) (fun _ => False)) 1 6 (va_A [(o, .inr (3, [.ref q1, .ref q2, .ref q3, .ref q4])), (q1, .inl (cI, 12, .inl hf)), (q2, .inl (cZ, 12, .inl bf))] sz) := by
  refine vx_ofW (cc := cX1_minus) (maxL := 5) (ret := (some .long)) (by decide) rfl ?_
  intro p e s m args below meth c s₁ B hml ht hv
  obtain ⟨rfl, hsz, hP, hK, hD0, hE⟩ := hv
  have hx := B.exec
  have hb := B.bytes
  have hr := B.returns
  have hts := atoms_spec (ws := wsX1_minus) B.pre
  have hown : s.vm.findClass RX1 = some m.cls := findClass_of_methodNamed B.named
  have hlocks := B.notSynchronized
  subst hsz
  have hD := hD0.self (sz := s.heap.size)
  generalize hAe : va_A [(o, .inr (3, [.ref q1, .ref q2, .ref q3, .ref q4])), (q1, .inl (cI, 12, .inl hf)), (q2, .inl (cZ, 12, .inl bf))] s.heap.size = A at hD hE ⊢
  have hA : ∀ q : Nat, s.heap.size ≤ q → A q := fun q h => by rw [← hAe]; exact Or.inr h
  have hS : va_S A s.heap s.heap [] := va_S.rf
  have hl := lv_entry ([.ref o, .int i0, .int i1, .int i2, .int i3]) (n := 5) (Nat.le_of_ble_eq_true rfl)
  rw [lg_entry_eq]
  generalize (lg_sl ([.ref o, .int i0, .int i1, .int i2, .int i3]) ++ List.replicate (5 - (lg_sl ([.ref o, .int i0, .int i1, .int i2, .int i3])).length) Slot.unset).toArray = ls at hl ⊢
  have hl : lv_has ls 5 [(0, .ref o), (1, .int i0), (2, .int i1), (3, .int i2), (4, .int i3)] := hl
  refine lv_iload_n hx hb dX1_minus_0 rfl (lv_at hl 1 rfl) ?_
  refine va_csv (va_Run.run (va_runS (As := [.int i0]) (rest := []) ⟨hx, hb, hml, hown, hts⟩ (c_X1_needPlace l i0 (by assumption)) (va_cwS 1 hts gX1_minus_X1_needPlace rfl rfl rfl (by decide +kernel) ⟨Nat.le_of_ble_eq_true rfl, Nat.le_of_ble_eq_true rfl⟩) ⟨ny_blindT, fun U hU hW => ⟨rfl, trivial⟩⟩ rfl rfl hl.1 rfl (lv_room (Nat.le_of_ble_eq_true rfl)) dX1_minus_1 ⟨Nat.le_of_ble_eq_true rfl, Nat.le_of_ble_eq_true rfl⟩)) (fun hw => ?_)
  refine lv_iload_n hx hb dX1_minus_4 rfl (lv_at hl 3 rfl) ?_
  refine va_csv (va_Run.run (va_runS (As := [.int i2]) (rest := []) ⟨hx, hb, hml, hown, hts⟩ (c_X1_needPlace l i2 (by assumption)) (va_cwS 1 hts gX1_minus_X1_needPlace rfl rfl rfl (by decide +kernel) ⟨Nat.le_of_ble_eq_true rfl, Nat.le_of_ble_eq_true rfl⟩) ⟨ny_blindT, fun U hU hW => ⟨rfl, trivial⟩⟩ rfl rfl hl.1 rfl (lv_room (Nat.le_of_ble_eq_true rfl)) dX1_minus_5 ⟨Nat.le_of_ble_eq_true rfl, Nat.le_of_ble_eq_true rfl⟩)) (fun hw => ?_)
  refine lv_aload_n hx hb dX1_minus_8 rfl (lv_at hl 0 rfl) ?_
  refine lv_iload_n hx hb dX1_minus_9 rfl (lv_at hl 2 rfl) ?_
  refine lv_iload hx hb dX1_minus_10 (lv_at hl 4 rfl) ?_
  exact ny_th hS (va_free (wc := [(o, .inr (3, [.ref q1, .ref q2, .ref q3, .ref q4])), (q1, .inl (cI, 12, .inl hf)), (q2, .inl (cZ, 12, .inl bf))]) hD hS hA [0, 1, 2] rfl) ht hlocks (Nat.le_of_ble_eq_true rfl) (Nat.le_of_ble_eq_true rfl) (vx_runV (As := [.int i1, .int i3]) (rest := []) ⟨hx, hb, hml, hown, hts⟩ (c_X1_needDivision_no0 l D cI cZ o q1 q2 q3 q4 s.heap.size hf bf i1 i3 (by assumption) (by assumption) (by assumption) (by assumption)) (cwV 2 hts gX1_minus_X1_needDivision rfl rfl rfl (by decide +kernel) ⟨Nat.le_of_ble_eq_true rfl, Nat.le_of_ble_eq_true rfl⟩) ⟨ny_blind, va_recv hK hP (ci := 3) (q0 := 0) rfl rfl, fun U hU hW => ⟨rfl, ny_preU hE hP hK hD hS hA [0, 1, 2] rfl (by decide) rfl [0, 1] rfl U hU hW⟩⟩ rfl rfl hl.1 rfl (lv_room (Nat.le_of_ble_eq_true rfl)) dX1_minus_12 ⟨Nat.le_of_ble_eq_true rfl, Nat.le_of_ble_eq_true rfl⟩)
theorem in_X1_product_X1 : ∀ w ∈ wsX10, w ∈ wsX1_product := (fun _ h => List.mem_cons_of_mem _ (List.mem_append_left _ (List.mem_append_left _ (List.mem_append_left _ (List.mem_append_left _ (List.mem_append_right _ h))))))
set_option maxHeartbeats 4000000 in
set_option maxRecDepth 100000 in
theorem c_X1_product (l : Launch) (D : va_G) (cI : ClassId) (cZ : ClassId) (o : Nat) (q1 : Nat) (q2 : Nat) (q3 : Nat) (q4 : Nat) (sz : Nat) (hf : Nat → Int32) (bf : Nat → Int32) (i0 : Int32) (i1 : Int32) (i2 : Int32) (i3 : Int32) (gp0 : vp_in i0 12) (gp1 : vp_in i1 12) (gp2 : vp_in i2 12) (gp3 : vp_in i3 12) (g0 : ¬ hf i3.toNatClampNeg = 0) (gH : ny_H hf) : Met l yX1_product wsX1_product ({ frames := 5, cells := 0, slots := 0, locals := 119 }) (va_Pc [.ref o, .int i0, .int i1, .int i2, .int i3] (ny_pre D [(cI, .int), (cZ, .boolean)] [(o, .inr (3, [.ref q1, .ref q2, .ref q3, .ref q4])), (q1, .inl (cI, 12, .inl hf)), (q2, .inl (cZ, 12, .inl bf))] sz)) (va_Ql (fun (r : Int64) (u : Unit) => r = f_bt (f_rs ((hf i1.toNatClampNeg * hf i2.toNatClampNeg).toInt64) (hf i3.toNatClampNeg)) 0) (fun (u : Unit) t => ny_at D [(cI, .int), (cZ, .boolean)] (va_A [(o, .inr (3, [.ref q1, .ref q2, .ref q3, .ref q4])), (q1, .inl (cI, 12, .inl hf)), (q2, .inl (cZ, 12, .inl bf))] sz) [(o, .inr (3, [.ref q1, .ref q2, .ref q3, .ref q4])), (q1, .inl (cI, 12, .inl (upd hf i0.toNatClampNeg (f_rs ((hf i1.toNatClampNeg * hf i2.toNatClampNeg).toInt64) (hf i3.toNatClampNeg))))), (q2, .inl (cZ, 12, .inl (upd bf i0.toNatClampNeg 0)))] t) (va_A [(o, .inr (3, [.ref q1, .ref q2, .ref q3, .ref q4])), (q1, .inl (cI, 12, .inl hf)), (q2, .inl (cZ, 12, .inl bf))] sz)) 0 0 (va_A [(o, .inr (3, [.ref q1, .ref q2, .ref q3, .ref q4])), (q1, .inl (cI, 12, .inl hf)), (q2, .inl (cZ, 12, .inl bf))] sz) := by
  refine Met.ofW (cc := cX1_product) (maxL := 5) (ret := (some .long)) (by decide) rfl ?_
  intro p e s m args below meth c s₁ B hml hv
  obtain ⟨rfl, hsz, hP, hK, hD0, hE⟩ := hv
  have hx := B.exec
  have hb := B.bytes
  have hr := B.returns
  have hts := atoms_spec (ws := wsX1_product) B.pre
  have hown : s.vm.findClass RX1 = some m.cls := findClass_of_methodNamed B.named
  have hlocks := B.notSynchronized
  subst hsz
  have hD := hD0.self (sz := s.heap.size)
  generalize hAe : va_A [(o, .inr (3, [.ref q1, .ref q2, .ref q3, .ref q4])), (q1, .inl (cI, 12, .inl hf)), (q2, .inl (cZ, 12, .inl bf))] s.heap.size = A at hD hE ⊢
  have hA : ∀ q : Nat, s.heap.size ≤ q → A q := fun q h => by rw [← hAe]; exact Or.inr h
  have hS : va_S A s.heap s.heap [] := va_S.rf
  have hl := lv_entry ([.ref o, .int i0, .int i1, .int i2, .int i3]) (n := 5) (Nat.le_of_ble_eq_true rfl)
  rw [lg_entry_eq]
  generalize (lg_sl ([.ref o, .int i0, .int i1, .int i2, .int i3]) ++ List.replicate (5 - (lg_sl ([.ref o, .int i0, .int i1, .int i2, .int i3])).length) Slot.unset).toArray = ls at hl ⊢
  have hl : lv_has ls 5 [(0, .ref o), (1, .int i0), (2, .int i1), (3, .int i2), (4, .int i3)] := hl
  refine lv_iload_n hx hb dX1_product_0 rfl (lv_at hl 1 rfl) ?_
  refine va_csv (va_Run.run (va_runS (As := [.int i0]) (rest := []) ⟨hx, hb, hml, hown, hts⟩ (c_X1_needPlace l i0 (by assumption)) (va_cwS 1 hts gX1_product_X1_needPlace rfl rfl rfl (by decide +kernel) ⟨Nat.le_of_ble_eq_true rfl, Nat.le_of_ble_eq_true rfl⟩) ⟨ny_blindT, fun U hU hW => ⟨rfl, trivial⟩⟩ rfl rfl hl.1 rfl (lv_room (Nat.le_of_ble_eq_true rfl)) dX1_product_1 ⟨Nat.le_of_ble_eq_true rfl, Nat.le_of_ble_eq_true rfl⟩)) (fun hw => ?_)
  refine lv_iload_n hx hb dX1_product_4 rfl (lv_at hl 3 rfl) ?_
  refine va_csv (va_Run.run (va_runS (As := [.int i2]) (rest := []) ⟨hx, hb, hml, hown, hts⟩ (c_X1_needPlace l i2 (by assumption)) (va_cwS 1 hts gX1_product_X1_needPlace rfl rfl rfl (by decide +kernel) ⟨Nat.le_of_ble_eq_true rfl, Nat.le_of_ble_eq_true rfl⟩) ⟨ny_blindT, fun U hU hW => ⟨rfl, trivial⟩⟩ rfl rfl hl.1 rfl (lv_room (Nat.le_of_ble_eq_true rfl)) dX1_product_5 ⟨Nat.le_of_ble_eq_true rfl, Nat.le_of_ble_eq_true rfl⟩)) (fun hw => ?_)
  refine lv_aload_n hx hb dX1_product_8 rfl (lv_at hl 0 rfl) ?_
  refine lv_iload_n hx hb dX1_product_9 rfl (lv_at hl 2 rfl) ?_
  refine lv_iload hx hb dX1_product_10 (lv_at hl 4 rfl) ?_
  refine va_csv (va_Run.run (va_runV (As := [.int i1, .int i3]) (rest := []) ⟨hx, hb, hml, hown, hts⟩ (c_X1_needDivision l D cI cZ o q1 q2 q3 q4 s.heap.size hf bf i1 i3 (by assumption) (by assumption) (by assumption)) (cwV 2 hts gX1_product_X1_needDivision rfl rfl rfl (by decide +kernel) ⟨Nat.le_of_ble_eq_true rfl, Nat.le_of_ble_eq_true rfl⟩) ⟨ny_blind, va_recv hK hP (ci := 3) (q0 := 0) rfl rfl, fun U hU hW => ⟨rfl, ny_preU hE hP hK hD hS hA [0, 1, 2] rfl (by decide) rfl [0, 1] rfl U hU hW⟩⟩ rfl rfl hl.1 rfl (lv_room (Nat.le_of_ble_eq_true rfl)) dX1_product_12 ⟨Nat.le_of_ble_eq_true rfl, Nat.le_of_ble_eq_true rfl⟩)) (fun hw => ?_)
  refine lv_aload_n hx hb dX1_product_15 rfl (lv_at hl 0 rfl) ?_
  refine lv_iload_n hx hb dX1_product_16 rfl (lv_at hl 1 rfl) ?_
  refine lv_aload_n hx hb dX1_product_17 rfl (lv_at hl 0 rfl) ?_
  refine va_get (D := D) (ci := 3) (v := .ref q1) (C := RX1) (T := TX1) (N := 4) hx hb hts in_X1_product_X1 hown hK hP 0 rfl rfl 0 (by decide) (hts (.fieldLink RX1 9 "Nearestclock" "held" "[I") (List.mem_of_getElem? (i := 1) rfl)) (fun _ h9 => h9) rfl dX1_product_18 ?_
  refine lv_iload_n hx hb dX1_product_21 rfl (lv_at hl 2 rfl) ?_
  refine va_iald hx hb hK hP 1 0 rfl rfl (by assumption) dX1_product_22 ?_
  refine lv_aload_n hx hb dX1_product_23 rfl (lv_at hl 0 rfl) ?_
  refine va_get (D := D) (ci := 3) (v := .ref q1) (C := RX1) (T := TX1) (N := 4) hx hb hts in_X1_product_X1 hown hK hP 0 rfl rfl 0 (by decide) (hts (.fieldLink RX1 9 "Nearestclock" "held" "[I") (List.mem_of_getElem? (i := 1) rfl)) (fun _ h9 => h9) rfl dX1_product_24 ?_
  refine lv_iload_n hx hb dX1_product_27 rfl (lv_at hl 3 rfl) ?_
  refine va_iald hx hb hK hP 1 0 rfl rfl (by assumption) dX1_product_28 ?_
  refine lv_imul hx hb dX1_product_29 ?_
  refine lv_i2l hx hb dX1_product_30 rfl ?_
  refine lv_iload hx hb dX1_product_31 (lv_at hl 4 rfl) ?_
  refine ny_l (wc := [(o, .inr (3, [.ref q1, .ref q2, .ref q3, .ref q4])), (q1, .inl (cI, 12, .inl hf)), (q2, .inl (cZ, 12, .inl bf))]) (wr := []) hP hD hS hA [0, 1, 2] [] rfl rfl (by decide) (by decide) (va_runV (As := [.int i0, .long (((hf i1.toNatClampNeg) * (hf i2.toNatClampNeg)).toInt64), .int i3]) (rest := []) ⟨hx, hb, hml, hown, hts⟩ (c_X1_keepResidue l D cI cZ o q1 q2 q3 q4 s.heap.size hf bf i0 (((hf i1.toNatClampNeg) * (hf i2.toNatClampNeg)).toInt64) i3 (by assumption) (by assumption) (by assumption) (by assumption) (n_lo _)) (cwV 3 hts gX1_product_X1_keepResidue rfl rfl rfl (by decide +kernel) ⟨Nat.le_of_ble_eq_true rfl, Nat.le_of_ble_eq_true rfl⟩) ⟨ny_blind, va_recv hK hP (ci := 3) (q0 := 0) rfl rfl, fun U hU hW => ⟨rfl, ny_preU hE hP hK hD hS hA [0, 1, 2] rfl (by decide) rfl [0, 1] rfl U hU hW⟩⟩ rfl rfl hl.1 rfl (lv_room (Nat.le_of_ble_eq_true rfl)) dX1_product_33 ⟨Nat.le_of_ble_eq_true rfl, Nat.le_of_ble_eq_true rfl⟩) (fun r_33 u H locs hw_33 hP hD hS => ?_)
  have hP : va_P D vwCl [(o, .inr (3, [.ref q1, .ref q2, .ref q3, .ref q4])), (q1, .inl (cI, 12, .inl (upd hf i0.toNatClampNeg (f_rs (((hf i1.toNatClampNeg) * (hf i2.toNatClampNeg)).toInt64) (hf i3.toNatClampNeg))))), (q2, .inl (cZ, 12, .inl (upd bf i0.toNatClampNeg 0)))] H := hP
  have hD : va_D A [(o, .inr (3, [.ref q1, .ref q2, .ref q3, .ref q4])), (q1, .inl (cI, 12, .inl (upd hf i0.toNatClampNeg (f_rs (((hf i1.toNatClampNeg) * (hf i2.toNatClampNeg)).toInt64) (hf i3.toNatClampNeg))))), (q2, .inl (cZ, 12, .inl (upd bf i0.toNatClampNeg 0)))] := hD
  have hw_33 : r_33 = f_bt (f_rs (((hf i1.toNatClampNeg) * (hf i2.toNatClampNeg)).toInt64) (hf i3.toNatClampNeg)) 0 := hw_33
  subst hw_33
  have hP9 := hP.sub (ws' := [(o, .inr (3, [.ref q1, .ref q2, .ref q3, .ref q4])), (q1, .inl (cI, 12, .inl (upd hf i0.toNatClampNeg (f_rs (((hf i1.toNatClampNeg) * (hf i2.toNatClampNeg)).toInt64) (hf i3.toNatClampNeg))))), (q2, .inl (cZ, 12, .inl (upd bf i0.toNatClampNeg 0)))]) [0, 1, 2] rfl
  have hD9 := hD.sub (ws' := [(o, .inr (3, [.ref q1, .ref q2, .ref q3, .ref q4])), (q1, .inl (cI, 12, .inl (upd hf i0.toNatClampNeg (f_rs (((hf i1.toNatClampNeg) * (hf i2.toNatClampNeg)).toInt64) (hf i3.toNatClampNeg))))), (q2, .inl (cZ, 12, .inl (upd bf i0.toNatClampNeg 0)))]) [0, 1, 2] (by decide) rfl
  exact W.lret (v := f_bt (f_rs (((hf i1.toNatClampNeg) * (hf i2.toNatClampNeg)).toInt64) (hf i3.toNatClampNeg)) 0) hx hb hr (fun t ht hW => ⟨⟨f_bt (f_rs (((hf i1.toNatClampNeg) * (hf i2.toNatClampNeg)).toInt64) (hf i3.toNatClampNeg)) 0, (), rfl, (rfl), by rw [ht]; exact hP9, va_K.moved hW.alike hK, hD9⟩, hS.F ht⟩) hS.2.2 dX1_product_36
set_option maxHeartbeats 4000000 in
set_option maxRecDepth 100000 in
theorem c_X1_product_noP (l : Launch) (D : va_G) (cI : ClassId) (cZ : ClassId) (o : Nat) (q1 : Nat) (q2 : Nat) (q3 : Nat) (q4 : Nat) (sz : Nat) (hf : Nat → Int32) (bf : Nat → Int32) (i0 : Int32) (i1 : Int32) (i2 : Int32) (i3 : Int32) (gl : l.stackTraces = false) (gb : ¬ vp_in i0 12 ∨ (¬ vp_in i2 12 ∨ (¬ vp_in i1 12 ∨ ¬ vp_in i3 12))) : vx_Met l yX1_product wsX1_product ({ frames := 8, cells := 1, slots := 6, locals := 132 }) (va_Pc [.ref o, .int i0, .int i1, .int i2, .int i3] (ny_pre D [(cI, .int), (cZ, .boolean)] [(o, .inr (3, [.ref q1, .ref q2, .ref q3, .ref q4])), (q1, .inl (cI, 12, .inl hf)), (q2, .inl (cZ, 12, .inl bf))] sz)) (fun _ _ _ _ => False) (vx_X (fun _ : Unit => True) (fun E' _ _ => E' = ny_IO) (fun _ => False)) 1 6 (va_A [(o, .inr (3, [.ref q1, .ref q2, .ref q3, .ref q4])), (q1, .inl (cI, 12, .inl hf)), (q2, .inl (cZ, 12, .inl bf))] sz) := by
  refine vx_ofW (cc := cX1_product) (maxL := 5) (ret := (some .long)) (by decide) rfl ?_
  intro p e s m args below meth c s₁ B hml ht hv
  obtain ⟨rfl, hsz, hP, hK, hD0, hE⟩ := hv
  have hx := B.exec
  have hb := B.bytes
  have hr := B.returns
  have hts := atoms_spec (ws := wsX1_product) B.pre
  have hown : s.vm.findClass RX1 = some m.cls := findClass_of_methodNamed B.named
  have hlocks := B.notSynchronized
  subst hsz
  have hD := hD0.self (sz := s.heap.size)
  generalize hAe : va_A [(o, .inr (3, [.ref q1, .ref q2, .ref q3, .ref q4])), (q1, .inl (cI, 12, .inl hf)), (q2, .inl (cZ, 12, .inl bf))] s.heap.size = A at hD hE ⊢
  have hA : ∀ q : Nat, s.heap.size ≤ q → A q := fun q h => by rw [← hAe]; exact Or.inr h
  have hS : va_S A s.heap s.heap [] := va_S.rf
  have hl := lv_entry ([.ref o, .int i0, .int i1, .int i2, .int i3]) (n := 5) (Nat.le_of_ble_eq_true rfl)
  rw [lg_entry_eq]
  generalize (lg_sl ([.ref o, .int i0, .int i1, .int i2, .int i3]) ++ List.replicate (5 - (lg_sl ([.ref o, .int i0, .int i1, .int i2, .int i3])).length) Slot.unset).toArray = ls at hl ⊢
  have hl : lv_has ls 5 [(0, .ref o), (1, .int i0), (2, .int i1), (3, .int i2), (4, .int i3)] := hl
  refine lv_iload_n hx hb dX1_product_0 rfl (lv_at hl 1 rfl) ?_
  by_cases q_1 : vp_in i0 12
  · have gb := gb.resolve_left (fun h => h q_1)
    refine va_csv (va_Run.run (va_runS (As := [.int i0]) (rest := []) ⟨hx, hb, hml, hown, hts⟩ (c_X1_needPlace l i0 (by assumption)) (va_cwS 1 hts gX1_product_X1_needPlace rfl rfl rfl (by decide +kernel) ⟨Nat.le_of_ble_eq_true rfl, Nat.le_of_ble_eq_true rfl⟩) ⟨ny_blindT, fun U hU hW => ⟨rfl, trivial⟩⟩ rfl rfl hl.1 rfl (lv_room (Nat.le_of_ble_eq_true rfl)) dX1_product_1 ⟨Nat.le_of_ble_eq_true rfl, Nat.le_of_ble_eq_true rfl⟩)) (fun hw => ?_)
    refine lv_iload_n hx hb dX1_product_4 rfl (lv_at hl 3 rfl) ?_
    by_cases q_5 : vp_in i2 12
    · have gb := gb.resolve_left (fun h => h q_5)
      refine va_csv (va_Run.run (va_runS (As := [.int i2]) (rest := []) ⟨hx, hb, hml, hown, hts⟩ (c_X1_needPlace l i2 (by assumption)) (va_cwS 1 hts gX1_product_X1_needPlace rfl rfl rfl (by decide +kernel) ⟨Nat.le_of_ble_eq_true rfl, Nat.le_of_ble_eq_true rfl⟩) ⟨ny_blindT, fun U hU hW => ⟨rfl, trivial⟩⟩ rfl rfl hl.1 rfl (lv_room (Nat.le_of_ble_eq_true rfl)) dX1_product_5 ⟨Nat.le_of_ble_eq_true rfl, Nat.le_of_ble_eq_true rfl⟩)) (fun hw => ?_)
      refine lv_aload_n hx hb dX1_product_8 rfl (lv_at hl 0 rfl) ?_
      refine lv_iload_n hx hb dX1_product_9 rfl (lv_at hl 2 rfl) ?_
      refine lv_iload hx hb dX1_product_10 (lv_at hl 4 rfl) ?_
      exact ny_th hS (va_free (wc := [(o, .inr (3, [.ref q1, .ref q2, .ref q3, .ref q4])), (q1, .inl (cI, 12, .inl hf)), (q2, .inl (cZ, 12, .inl bf))]) hD hS hA [0, 1, 2] rfl) ht hlocks (Nat.le_of_ble_eq_true rfl) (Nat.le_of_ble_eq_true rfl) (vx_runV (As := [.int i1, .int i3]) (rest := []) ⟨hx, hb, hml, hown, hts⟩ (c_X1_needDivision_noP l D cI cZ o q1 q2 q3 q4 s.heap.size hf bf i1 i3 (by assumption) (by assumption)) (cwV 2 hts gX1_product_X1_needDivision rfl rfl rfl (by decide +kernel) ⟨Nat.le_of_ble_eq_true rfl, Nat.le_of_ble_eq_true rfl⟩) ⟨ny_blind, va_recv hK hP (ci := 3) (q0 := 0) rfl rfl, fun U hU hW => ⟨rfl, ny_preU hE hP hK hD hS hA [0, 1, 2] rfl (by decide) rfl [0, 1] rfl U hU hW⟩⟩ rfl rfl hl.1 rfl (lv_room (Nat.le_of_ble_eq_true rfl)) dX1_product_12 ⟨Nat.le_of_ble_eq_true rfl, Nat.le_of_ble_eq_true rfl⟩)
    · exact ny_th hS (va_free (wc := []) hD hS hA [] rfl) ht hlocks (Nat.le_of_ble_eq_true rfl) (Nat.le_of_ble_eq_true rfl) (vx_runS (As := [.int i2]) (rest := []) ⟨hx, hb, hml, hown, hts⟩ (c_X1_needPlace_no l D s.heap.size i2 (by assumption) (by assumption)) (va_cwS 1 hts gX1_product_X1_needPlace rfl rfl rfl (by decide +kernel) ⟨Nat.le_of_ble_eq_true rfl, Nat.le_of_ble_eq_true rfl⟩) ⟨ny_blind, fun U hU hW => ⟨rfl, ny_preU hE hP hK hD hS hA [] rfl (by decide) rfl [] rfl U hU hW⟩⟩ rfl rfl hl.1 rfl (lv_room (Nat.le_of_ble_eq_true rfl)) dX1_product_5 ⟨Nat.le_of_ble_eq_true rfl, Nat.le_of_ble_eq_true rfl⟩)
  · exact ny_th hS (va_free (wc := []) hD hS hA [] rfl) ht hlocks (Nat.le_of_ble_eq_true rfl) (Nat.le_of_ble_eq_true rfl) (vx_runS (As := [.int i0]) (rest := []) ⟨hx, hb, hml, hown, hts⟩ (c_X1_needPlace_no l D s.heap.size i0 (by assumption) (by assumption)) (va_cwS 1 hts gX1_product_X1_needPlace rfl rfl rfl (by decide +kernel) ⟨Nat.le_of_ble_eq_true rfl, Nat.le_of_ble_eq_true rfl⟩) ⟨ny_blind, fun U hU hW => ⟨rfl, ny_preU hE hP hK hD hS hA [] rfl (by decide) rfl [] rfl U hU hW⟩⟩ rfl rfl hl.1 rfl (lv_room (Nat.le_of_ble_eq_true rfl)) dX1_product_1 ⟨Nat.le_of_ble_eq_true rfl, Nat.le_of_ble_eq_true rfl⟩)
set_option maxHeartbeats 4000000 in
set_option maxRecDepth 100000 in
theorem c_X1_product_no0 (l : Launch) (D : va_G) (cI : ClassId) (cZ : ClassId) (o : Nat) (q1 : Nat) (q2 : Nat) (q3 : Nat) (q4 : Nat) (sz : Nat) (hf : Nat → Int32) (bf : Nat → Int32) (i0 : Int32) (i1 : Int32) (i2 : Int32) (i3 : Int32) (gl : l.stackTraces = false) (gp0 : vp_in i0 12) (gp1 : vp_in i1 12) (gp2 : vp_in i2 12) (gp3 : vp_in i3 12) (g0 : hf i3.toNatClampNeg = 0) : vx_Met l yX1_product wsX1_product ({ frames := 7, cells := 1, slots := 6, locals := 112 }) (va_Pc [.ref o, .int i0, .int i1, .int i2, .int i3] (ny_pre D [(cI, .int), (cZ, .boolean)] [(o, .inr (3, [.ref q1, .ref q2, .ref q3, .ref q4])), (q1, .inl (cI, 12, .inl hf)), (q2, .inl (cZ, 12, .inl bf))] sz)) (fun _ _ _ _ => False) (vx_X (fun _ : Unit => True) (fun E' _ _ => E' = ny_AE) (fun _ => False)) 1 6 (va_A [(o, .inr (3, [.ref q1, .ref q2, .ref q3, .ref q4])), (q1, .inl (cI, 12, .inl hf)), (q2, .inl (cZ, 12, .inl bf))] sz) := by
  refine vx_ofW (cc := cX1_product) (maxL := 5) (ret := (some .long)) (by decide) rfl ?_
  intro p e s m args below meth c s₁ B hml ht hv
  obtain ⟨rfl, hsz, hP, hK, hD0, hE⟩ := hv
  have hx := B.exec
  have hb := B.bytes
  have hr := B.returns
  have hts := atoms_spec (ws := wsX1_product) B.pre
  have hown : s.vm.findClass RX1 = some m.cls := findClass_of_methodNamed B.named
  have hlocks := B.notSynchronized
  subst hsz
  have hD := hD0.self (sz := s.heap.size)
  generalize hAe : va_A [(o, .inr (3, [.ref q1, .ref q2, .ref q3, .ref q4])), (q1, .inl (cI, 12, .inl hf)), (q2, .inl (cZ, 12, .inl bf))] s.heap.size = A at hD hE ⊢
  have hA : ∀ q : Nat, s.heap.size ≤ q → A q := fun q h => by rw [← hAe]; exact Or.inr h
  have hS : va_S A s.heap s.heap [] := va_S.rf
  have hl := lv_entry ([.ref o, .int i0, .int i1, .int i2, .int i3]) (n := 5) (Nat.le_of_ble_eq_true rfl)
  rw [lg_entry_eq]
  generalize (lg_sl ([.ref o, .int i0, .int i1, .int i2, .int i3]) ++ List.replicate (5 - (lg_sl ([.ref o, .int i0, .int i1, .int i2, .int i3])).length) Slot.unset).toArray = ls at hl ⊢
  have hl : lv_has ls 5 [(0, .ref o), (1, .int i0), (2, .int i1), (3, .int i2), (4, .int i3)] := hl
  refine lv_iload_n hx hb dX1_product_0 rfl (lv_at hl 1 rfl) ?_
  refine va_csv (va_Run.run (va_runS (As := [.int i0]) (rest := []) ⟨hx, hb, hml, hown, hts⟩ (c_X1_needPlace l i0 (by assumption)) (va_cwS 1 hts gX1_product_X1_needPlace rfl rfl rfl (by decide +kernel) ⟨Nat.le_of_ble_eq_true rfl, Nat.le_of_ble_eq_true rfl⟩) ⟨ny_blindT, fun U hU hW => ⟨rfl, trivial⟩⟩ rfl rfl hl.1 rfl (lv_room (Nat.le_of_ble_eq_true rfl)) dX1_product_1 ⟨Nat.le_of_ble_eq_true rfl, Nat.le_of_ble_eq_true rfl⟩)) (fun hw => ?_)
  refine lv_iload_n hx hb dX1_product_4 rfl (lv_at hl 3 rfl) ?_
  refine va_csv (va_Run.run (va_runS (As := [.int i2]) (rest := []) ⟨hx, hb, hml, hown, hts⟩ (c_X1_needPlace l i2 (by assumption)) (va_cwS 1 hts gX1_product_X1_needPlace rfl rfl rfl (by decide +kernel) ⟨Nat.le_of_ble_eq_true rfl, Nat.le_of_ble_eq_true rfl⟩) ⟨ny_blindT, fun U hU hW => ⟨rfl, trivial⟩⟩ rfl rfl hl.1 rfl (lv_room (Nat.le_of_ble_eq_true rfl)) dX1_product_5 ⟨Nat.le_of_ble_eq_true rfl, Nat.le_of_ble_eq_true rfl⟩)) (fun hw => ?_)
  refine lv_aload_n hx hb dX1_product_8 rfl (lv_at hl 0 rfl) ?_
  refine lv_iload_n hx hb dX1_product_9 rfl (lv_at hl 2 rfl) ?_
  refine lv_iload hx hb dX1_product_10 (lv_at hl 4 rfl) ?_
  exact ny_th hS (va_free (wc := [(o, .inr (3, [.ref q1, .ref q2, .ref q3, .ref q4])), (q1, .inl (cI, 12, .inl hf)), (q2, .inl (cZ, 12, .inl bf))]) hD hS hA [0, 1, 2] rfl) ht hlocks (Nat.le_of_ble_eq_true rfl) (Nat.le_of_ble_eq_true rfl) (vx_runV (As := [.int i1, .int i3]) (rest := []) ⟨hx, hb, hml, hown, hts⟩ (c_X1_needDivision_no0 l D cI cZ o q1 q2 q3 q4 s.heap.size hf bf i1 i3 (by assumption) (by assumption) (by assumption) (by assumption)) (cwV 2 hts gX1_product_X1_needDivision rfl rfl rfl (by decide +kernel) ⟨Nat.le_of_ble_eq_true rfl, Nat.le_of_ble_eq_true rfl⟩) ⟨ny_blind, va_recv hK hP (ci := 3) (q0 := 0) rfl rfl, fun U hU hW => ⟨rfl, ny_preU hE hP hK hD hS hA [0, 1, 2] rfl (by decide) rfl [0, 1] rfl U hU hW⟩⟩ rfl rfl hl.1 rfl (lv_room (Nat.le_of_ble_eq_true rfl)) dX1_product_12 ⟨Nat.le_of_ble_eq_true rfl, Nat.le_of_ble_eq_true rfl⟩)
theorem in_X1_many_X1 : ∀ w ∈ wsX10, w ∈ wsX1_many := (fun _ h => List.mem_cons_of_mem _ (List.mem_append_left _ (List.mem_append_left _ (List.mem_append_left _ (List.mem_append_left _ (List.mem_append_right _ h))))))
set_option maxHeartbeats 4000000 in
set_option maxRecDepth 100000 in
theorem c_X1_many (l : Launch) (D : va_G) (cI : ClassId) (cZ : ClassId) (o : Nat) (q1 : Nat) (q2 : Nat) (q3 : Nat) (q4 : Nat) (sz : Nat) (hf : Nat → Int32) (bf : Nat → Int32) (i0 : Int32) (i1 : Int32) (i2 : Int32) (i3 : Int32) (gp0 : vp_in i0 12) (gp2 : vp_in i2 12) (gp3 : vp_in i3 12) (g0 : ¬ hf i3.toNatClampNeg = 0) (gH : ny_H hf) : Met l yX1_many wsX1_many ({ frames := 5, cells := 0, slots := 0, locals := 119 }) (va_Pc [.ref o, .int i0, .int i1, .int i2, .int i3] (ny_pre D [(cI, .int), (cZ, .boolean)] [(o, .inr (3, [.ref q1, .ref q2, .ref q3, .ref q4])), (q1, .inl (cI, 12, .inl hf)), (q2, .inl (cZ, 12, .inl bf))] sz)) (va_Ql (fun (r : Int64) (u : Unit) => r = f_bt (f_rs (i1.toInt64 * (hf i2.toNatClampNeg).toInt64) (hf i3.toNatClampNeg)) 0) (fun (u : Unit) t => ny_at D [(cI, .int), (cZ, .boolean)] (va_A [(o, .inr (3, [.ref q1, .ref q2, .ref q3, .ref q4])), (q1, .inl (cI, 12, .inl hf)), (q2, .inl (cZ, 12, .inl bf))] sz) [(o, .inr (3, [.ref q1, .ref q2, .ref q3, .ref q4])), (q1, .inl (cI, 12, .inl (upd hf i0.toNatClampNeg (f_rs (i1.toInt64 * (hf i2.toNatClampNeg).toInt64) (hf i3.toNatClampNeg))))), (q2, .inl (cZ, 12, .inl (upd bf i0.toNatClampNeg 0)))] t) (va_A [(o, .inr (3, [.ref q1, .ref q2, .ref q3, .ref q4])), (q1, .inl (cI, 12, .inl hf)), (q2, .inl (cZ, 12, .inl bf))] sz)) 0 0 (va_A [(o, .inr (3, [.ref q1, .ref q2, .ref q3, .ref q4])), (q1, .inl (cI, 12, .inl hf)), (q2, .inl (cZ, 12, .inl bf))] sz) := by
  refine Met.ofW (cc := cX1_many) (maxL := 5) (ret := (some .long)) (by decide) rfl ?_
  intro p e s m args below meth c s₁ B hml hv
  obtain ⟨rfl, hsz, hP, hK, hD0, hE⟩ := hv
  have hx := B.exec
  have hb := B.bytes
  have hr := B.returns
  have hts := atoms_spec (ws := wsX1_many) B.pre
  have hown : s.vm.findClass RX1 = some m.cls := findClass_of_methodNamed B.named
  have hlocks := B.notSynchronized
  subst hsz
  have hD := hD0.self (sz := s.heap.size)
  generalize hAe : va_A [(o, .inr (3, [.ref q1, .ref q2, .ref q3, .ref q4])), (q1, .inl (cI, 12, .inl hf)), (q2, .inl (cZ, 12, .inl bf))] s.heap.size = A at hD hE ⊢
  have hA : ∀ q : Nat, s.heap.size ≤ q → A q := fun q h => by rw [← hAe]; exact Or.inr h
  have hS : va_S A s.heap s.heap [] := va_S.rf
  have hl := lv_entry ([.ref o, .int i0, .int i1, .int i2, .int i3]) (n := 5) (Nat.le_of_ble_eq_true rfl)
  rw [lg_entry_eq]
  generalize (lg_sl ([.ref o, .int i0, .int i1, .int i2, .int i3]) ++ List.replicate (5 - (lg_sl ([.ref o, .int i0, .int i1, .int i2, .int i3])).length) Slot.unset).toArray = ls at hl ⊢
  have hl : lv_has ls 5 [(0, .ref o), (1, .int i0), (2, .int i1), (3, .int i2), (4, .int i3)] := hl
  refine lv_iload_n hx hb dX1_many_0 rfl (lv_at hl 1 rfl) ?_
  refine va_csv (va_Run.run (va_runS (As := [.int i0]) (rest := []) ⟨hx, hb, hml, hown, hts⟩ (c_X1_needPlace l i0 (by assumption)) (va_cwS 1 hts gX1_many_X1_needPlace rfl rfl rfl (by decide +kernel) ⟨Nat.le_of_ble_eq_true rfl, Nat.le_of_ble_eq_true rfl⟩) ⟨ny_blindT, fun U hU hW => ⟨rfl, trivial⟩⟩ rfl rfl hl.1 rfl (lv_room (Nat.le_of_ble_eq_true rfl)) dX1_many_1 ⟨Nat.le_of_ble_eq_true rfl, Nat.le_of_ble_eq_true rfl⟩)) (fun hw => ?_)
  refine lv_aload_n hx hb dX1_many_4 rfl (lv_at hl 0 rfl) ?_
  refine lv_iload_n hx hb dX1_many_5 rfl (lv_at hl 3 rfl) ?_
  refine lv_iload hx hb dX1_many_6 (lv_at hl 4 rfl) ?_
  refine va_csv (va_Run.run (va_runV (As := [.int i2, .int i3]) (rest := []) ⟨hx, hb, hml, hown, hts⟩ (c_X1_needDivision l D cI cZ o q1 q2 q3 q4 s.heap.size hf bf i2 i3 (by assumption) (by assumption) (by assumption)) (cwV 2 hts gX1_many_X1_needDivision rfl rfl rfl (by decide +kernel) ⟨Nat.le_of_ble_eq_true rfl, Nat.le_of_ble_eq_true rfl⟩) ⟨ny_blind, va_recv hK hP (ci := 3) (q0 := 0) rfl rfl, fun U hU hW => ⟨rfl, ny_preU hE hP hK hD hS hA [0, 1, 2] rfl (by decide) rfl [0, 1] rfl U hU hW⟩⟩ rfl rfl hl.1 rfl (lv_room (Nat.le_of_ble_eq_true rfl)) dX1_many_8 ⟨Nat.le_of_ble_eq_true rfl, Nat.le_of_ble_eq_true rfl⟩)) (fun hw => ?_)
  refine lv_aload_n hx hb dX1_many_11 rfl (lv_at hl 0 rfl) ?_
  refine lv_iload_n hx hb dX1_many_12 rfl (lv_at hl 1 rfl) ?_
  refine lv_iload_n hx hb dX1_many_13 rfl (lv_at hl 2 rfl) ?_
  refine lv_i2l hx hb dX1_many_14 rfl ?_
  refine lv_aload_n hx hb dX1_many_15 rfl (lv_at hl 0 rfl) ?_
  refine va_get (D := D) (ci := 3) (v := .ref q1) (C := RX1) (T := TX1) (N := 4) hx hb hts in_X1_many_X1 hown hK hP 0 rfl rfl 0 (by decide) (hts (.fieldLink RX1 9 "Nearestclock" "held" "[I") (List.mem_of_getElem? (i := 1) rfl)) (fun _ h9 => h9) rfl dX1_many_16 ?_
  refine lv_iload_n hx hb dX1_many_19 rfl (lv_at hl 3 rfl) ?_
  refine va_iald hx hb hK hP 1 0 rfl rfl (by assumption) dX1_many_20 ?_
  refine lv_i2l hx hb dX1_many_21 rfl ?_
  refine lv_lmul hx hb dX1_many_22 ?_
  refine lv_iload hx hb dX1_many_23 (lv_at hl 4 rfl) ?_
  refine ny_l (wc := [(o, .inr (3, [.ref q1, .ref q2, .ref q3, .ref q4])), (q1, .inl (cI, 12, .inl hf)), (q2, .inl (cZ, 12, .inl bf))]) (wr := []) hP hD hS hA [0, 1, 2] [] rfl rfl (by decide) (by decide) (va_runV (As := [.int i0, .long (i1.toInt64 * ((hf i2.toNatClampNeg).toInt64)), .int i3]) (rest := []) ⟨hx, hb, hml, hown, hts⟩ (c_X1_keepResidue l D cI cZ o q1 q2 q3 q4 s.heap.size hf bf i0 (i1.toInt64 * ((hf i2.toNatClampNeg).toInt64)) i3 (by assumption) (by assumption) (by assumption) (by assumption) (n_many i1 (gH _ (n_ix gp2))).1) (cwV 3 hts gX1_many_X1_keepResidue rfl rfl rfl (by decide +kernel) ⟨Nat.le_of_ble_eq_true rfl, Nat.le_of_ble_eq_true rfl⟩) ⟨ny_blind, va_recv hK hP (ci := 3) (q0 := 0) rfl rfl, fun U hU hW => ⟨rfl, ny_preU hE hP hK hD hS hA [0, 1, 2] rfl (by decide) rfl [0, 1] rfl U hU hW⟩⟩ rfl rfl hl.1 rfl (lv_room (Nat.le_of_ble_eq_true rfl)) dX1_many_25 ⟨Nat.le_of_ble_eq_true rfl, Nat.le_of_ble_eq_true rfl⟩) (fun r_25 u H locs hw_25 hP hD hS => ?_)
  have hP : va_P D vwCl [(o, .inr (3, [.ref q1, .ref q2, .ref q3, .ref q4])), (q1, .inl (cI, 12, .inl (upd hf i0.toNatClampNeg (f_rs (i1.toInt64 * ((hf i2.toNatClampNeg).toInt64)) (hf i3.toNatClampNeg))))), (q2, .inl (cZ, 12, .inl (upd bf i0.toNatClampNeg 0)))] H := hP
  have hD : va_D A [(o, .inr (3, [.ref q1, .ref q2, .ref q3, .ref q4])), (q1, .inl (cI, 12, .inl (upd hf i0.toNatClampNeg (f_rs (i1.toInt64 * ((hf i2.toNatClampNeg).toInt64)) (hf i3.toNatClampNeg))))), (q2, .inl (cZ, 12, .inl (upd bf i0.toNatClampNeg 0)))] := hD
  have hw_25 : r_25 = f_bt (f_rs (i1.toInt64 * ((hf i2.toNatClampNeg).toInt64)) (hf i3.toNatClampNeg)) 0 := hw_25
  subst hw_25
  have hP9 := hP.sub (ws' := [(o, .inr (3, [.ref q1, .ref q2, .ref q3, .ref q4])), (q1, .inl (cI, 12, .inl (upd hf i0.toNatClampNeg (f_rs (i1.toInt64 * ((hf i2.toNatClampNeg).toInt64)) (hf i3.toNatClampNeg))))), (q2, .inl (cZ, 12, .inl (upd bf i0.toNatClampNeg 0)))]) [0, 1, 2] rfl
  have hD9 := hD.sub (ws' := [(o, .inr (3, [.ref q1, .ref q2, .ref q3, .ref q4])), (q1, .inl (cI, 12, .inl (upd hf i0.toNatClampNeg (f_rs (i1.toInt64 * ((hf i2.toNatClampNeg).toInt64)) (hf i3.toNatClampNeg))))), (q2, .inl (cZ, 12, .inl (upd bf i0.toNatClampNeg 0)))]) [0, 1, 2] (by decide) rfl
  exact W.lret (v := f_bt (f_rs (i1.toInt64 * ((hf i2.toNatClampNeg).toInt64)) (hf i3.toNatClampNeg)) 0) hx hb hr (fun t ht hW => ⟨⟨f_bt (f_rs (i1.toInt64 * ((hf i2.toNatClampNeg).toInt64)) (hf i3.toNatClampNeg)) 0, (), rfl, (rfl), by rw [ht]; exact hP9, va_K.moved hW.alike hK, hD9⟩, hS.F ht⟩) hS.2.2 dX1_many_28
set_option maxHeartbeats 4000000 in
set_option maxRecDepth 100000 in
theorem c_X1_many_noP (l : Launch) (D : va_G) (cI : ClassId) (cZ : ClassId) (o : Nat) (q1 : Nat) (q2 : Nat) (q3 : Nat) (q4 : Nat) (sz : Nat) (hf : Nat → Int32) (bf : Nat → Int32) (i0 : Int32) (i1 : Int32) (i2 : Int32) (i3 : Int32) (gl : l.stackTraces = false) (gb : ¬ vp_in i0 12 ∨ (¬ vp_in i2 12 ∨ ¬ vp_in i3 12)) : vx_Met l yX1_many wsX1_many ({ frames := 8, cells := 1, slots := 6, locals := 132 }) (va_Pc [.ref o, .int i0, .int i1, .int i2, .int i3] (ny_pre D [(cI, .int), (cZ, .boolean)] [(o, .inr (3, [.ref q1, .ref q2, .ref q3, .ref q4])), (q1, .inl (cI, 12, .inl hf)), (q2, .inl (cZ, 12, .inl bf))] sz)) (fun _ _ _ _ => False) (vx_X (fun _ : Unit => True) (fun E' _ _ => E' = ny_IO) (fun _ => False)) 1 6 (va_A [(o, .inr (3, [.ref q1, .ref q2, .ref q3, .ref q4])), (q1, .inl (cI, 12, .inl hf)), (q2, .inl (cZ, 12, .inl bf))] sz) := by
  refine vx_ofW (cc := cX1_many) (maxL := 5) (ret := (some .long)) (by decide) rfl ?_
  intro p e s m args below meth c s₁ B hml ht hv
  obtain ⟨rfl, hsz, hP, hK, hD0, hE⟩ := hv
  have hx := B.exec
  have hb := B.bytes
  have hr := B.returns
  have hts := atoms_spec (ws := wsX1_many) B.pre
  have hown : s.vm.findClass RX1 = some m.cls := findClass_of_methodNamed B.named
  have hlocks := B.notSynchronized
  subst hsz
  have hD := hD0.self (sz := s.heap.size)
  generalize hAe : va_A [(o, .inr (3, [.ref q1, .ref q2, .ref q3, .ref q4])), (q1, .inl (cI, 12, .inl hf)), (q2, .inl (cZ, 12, .inl bf))] s.heap.size = A at hD hE ⊢
  have hA : ∀ q : Nat, s.heap.size ≤ q → A q := fun q h => by rw [← hAe]; exact Or.inr h
  have hS : va_S A s.heap s.heap [] := va_S.rf
  have hl := lv_entry ([.ref o, .int i0, .int i1, .int i2, .int i3]) (n := 5) (Nat.le_of_ble_eq_true rfl)
  rw [lg_entry_eq]
  generalize (lg_sl ([.ref o, .int i0, .int i1, .int i2, .int i3]) ++ List.replicate (5 - (lg_sl ([.ref o, .int i0, .int i1, .int i2, .int i3])).length) Slot.unset).toArray = ls at hl ⊢
  have hl : lv_has ls 5 [(0, .ref o), (1, .int i0), (2, .int i1), (3, .int i2), (4, .int i3)] := hl
  refine lv_iload_n hx hb dX1_many_0 rfl (lv_at hl 1 rfl) ?_
  by_cases q_1 : vp_in i0 12
  · have gb := gb.resolve_left (fun h => h q_1)
    refine va_csv (va_Run.run (va_runS (As := [.int i0]) (rest := []) ⟨hx, hb, hml, hown, hts⟩ (c_X1_needPlace l i0 (by assumption)) (va_cwS 1 hts gX1_many_X1_needPlace rfl rfl rfl (by decide +kernel) ⟨Nat.le_of_ble_eq_true rfl, Nat.le_of_ble_eq_true rfl⟩) ⟨ny_blindT, fun U hU hW => ⟨rfl, trivial⟩⟩ rfl rfl hl.1 rfl (lv_room (Nat.le_of_ble_eq_true rfl)) dX1_many_1 ⟨Nat.le_of_ble_eq_true rfl, Nat.le_of_ble_eq_true rfl⟩)) (fun hw => ?_)
    refine lv_aload_n hx hb dX1_many_4 rfl (lv_at hl 0 rfl) ?_
    refine lv_iload_n hx hb dX1_many_5 rfl (lv_at hl 3 rfl) ?_
    refine lv_iload hx hb dX1_many_6 (lv_at hl 4 rfl) ?_
    exact ny_th hS (va_free (wc := [(o, .inr (3, [.ref q1, .ref q2, .ref q3, .ref q4])), (q1, .inl (cI, 12, .inl hf)), (q2, .inl (cZ, 12, .inl bf))]) hD hS hA [0, 1, 2] rfl) ht hlocks (Nat.le_of_ble_eq_true rfl) (Nat.le_of_ble_eq_true rfl) (vx_runV (As := [.int i2, .int i3]) (rest := []) ⟨hx, hb, hml, hown, hts⟩ (c_X1_needDivision_noP l D cI cZ o q1 q2 q3 q4 s.heap.size hf bf i2 i3 (by assumption) (by assumption)) (cwV 2 hts gX1_many_X1_needDivision rfl rfl rfl (by decide +kernel) ⟨Nat.le_of_ble_eq_true rfl, Nat.le_of_ble_eq_true rfl⟩) ⟨ny_blind, va_recv hK hP (ci := 3) (q0 := 0) rfl rfl, fun U hU hW => ⟨rfl, ny_preU hE hP hK hD hS hA [0, 1, 2] rfl (by decide) rfl [0, 1] rfl U hU hW⟩⟩ rfl rfl hl.1 rfl (lv_room (Nat.le_of_ble_eq_true rfl)) dX1_many_8 ⟨Nat.le_of_ble_eq_true rfl, Nat.le_of_ble_eq_true rfl⟩)
  · exact ny_th hS (va_free (wc := []) hD hS hA [] rfl) ht hlocks (Nat.le_of_ble_eq_true rfl) (Nat.le_of_ble_eq_true rfl) (vx_runS (As := [.int i0]) (rest := []) ⟨hx, hb, hml, hown, hts⟩ (c_X1_needPlace_no l D s.heap.size i0 (by assumption) (by assumption)) (va_cwS 1 hts gX1_many_X1_needPlace rfl rfl rfl (by decide +kernel) ⟨Nat.le_of_ble_eq_true rfl, Nat.le_of_ble_eq_true rfl⟩) ⟨ny_blind, fun U hU hW => ⟨rfl, ny_preU hE hP hK hD hS hA [] rfl (by decide) rfl [] rfl U hU hW⟩⟩ rfl rfl hl.1 rfl (lv_room (Nat.le_of_ble_eq_true rfl)) dX1_many_1 ⟨Nat.le_of_ble_eq_true rfl, Nat.le_of_ble_eq_true rfl⟩)
set_option maxHeartbeats 4000000 in
set_option maxRecDepth 100000 in
theorem c_X1_many_no0 (l : Launch) (D : va_G) (cI : ClassId) (cZ : ClassId) (o : Nat) (q1 : Nat) (q2 : Nat) (q3 : Nat) (q4 : Nat) (sz : Nat) (hf : Nat → Int32) (bf : Nat → Int32) (i0 : Int32) (i1 : Int32) (i2 : Int32) (i3 : Int32) (gl : l.stackTraces = false) (gp0 : vp_in i0 12) (gp2 : vp_in i2 12) (gp3 : vp_in i3 12) (g0 : hf i3.toNatClampNeg = 0) : vx_Met l yX1_many wsX1_many ({ frames := 7, cells := 1, slots := 6, locals := 112 }) (va_Pc [.ref o, .int i0, .int i1, .int i2, .int i3] (ny_pre D [(cI, .int), (cZ, .boolean)] [(o, .inr (3, [.ref q1, .ref q2, .ref q3, .ref q4])), (q1, .inl (cI, 12, .inl hf)), (q2, .inl (cZ, 12, .inl bf))] sz)) (fun _ _ _ _ => False) (vx_X (fun _ : Unit => True) (fun E' _ _ => E' = ny_AE) (fun _ => False)) 1 6 (va_A [(o, .inr (3, [.ref q1, .ref q2, .ref q3, .ref q4])), (q1, .inl (cI, 12, .inl hf)), (q2, .inl (cZ, 12, .inl bf))] sz) := by
  refine vx_ofW (cc := cX1_many) (maxL := 5) (ret := (some .long)) (by decide) rfl ?_
  intro p e s m args below meth c s₁ B hml ht hv
  obtain ⟨rfl, hsz, hP, hK, hD0, hE⟩ := hv
  have hx := B.exec
  have hb := B.bytes
  have hr := B.returns
  have hts := atoms_spec (ws := wsX1_many) B.pre
  have hown : s.vm.findClass RX1 = some m.cls := findClass_of_methodNamed B.named
  have hlocks := B.notSynchronized
  subst hsz
  have hD := hD0.self (sz := s.heap.size)
  generalize hAe : va_A [(o, .inr (3, [.ref q1, .ref q2, .ref q3, .ref q4])), (q1, .inl (cI, 12, .inl hf)), (q2, .inl (cZ, 12, .inl bf))] s.heap.size = A at hD hE ⊢
  have hA : ∀ q : Nat, s.heap.size ≤ q → A q := fun q h => by rw [← hAe]; exact Or.inr h
  have hS : va_S A s.heap s.heap [] := va_S.rf
  have hl := lv_entry ([.ref o, .int i0, .int i1, .int i2, .int i3]) (n := 5) (Nat.le_of_ble_eq_true rfl)
  rw [lg_entry_eq]
  generalize (lg_sl ([.ref o, .int i0, .int i1, .int i2, .int i3]) ++ List.replicate (5 - (lg_sl ([.ref o, .int i0, .int i1, .int i2, .int i3])).length) Slot.unset).toArray = ls at hl ⊢
  have hl : lv_has ls 5 [(0, .ref o), (1, .int i0), (2, .int i1), (3, .int i2), (4, .int i3)] := hl
  refine lv_iload_n hx hb dX1_many_0 rfl (lv_at hl 1 rfl) ?_
  refine va_csv (va_Run.run (va_runS (As := [.int i0]) (rest := []) ⟨hx, hb, hml, hown, hts⟩ (c_X1_needPlace l i0 (by assumption)) (va_cwS 1 hts gX1_many_X1_needPlace rfl rfl rfl (by decide +kernel) ⟨Nat.le_of_ble_eq_true rfl, Nat.le_of_ble_eq_true rfl⟩) ⟨ny_blindT, fun U hU hW => ⟨rfl, trivial⟩⟩ rfl rfl hl.1 rfl (lv_room (Nat.le_of_ble_eq_true rfl)) dX1_many_1 ⟨Nat.le_of_ble_eq_true rfl, Nat.le_of_ble_eq_true rfl⟩)) (fun hw => ?_)
  refine lv_aload_n hx hb dX1_many_4 rfl (lv_at hl 0 rfl) ?_
  refine lv_iload_n hx hb dX1_many_5 rfl (lv_at hl 3 rfl) ?_
  refine lv_iload hx hb dX1_many_6 (lv_at hl 4 rfl) ?_
  exact ny_th hS (va_free (wc := [(o, .inr (3, [.ref q1, .ref q2, .ref q3, .ref q4])), (q1, .inl (cI, 12, .inl hf)), (q2, .inl (cZ, 12, .inl bf))]) hD hS hA [0, 1, 2] rfl) ht hlocks (Nat.le_of_ble_eq_true rfl) (Nat.le_of_ble_eq_true rfl) (vx_runV (As := [.int i2, .int i3]) (rest := []) ⟨hx, hb, hml, hown, hts⟩ (c_X1_needDivision_no0 l D cI cZ o q1 q2 q3 q4 s.heap.size hf bf i2 i3 (by assumption) (by assumption) (by assumption) (by assumption)) (cwV 2 hts gX1_many_X1_needDivision rfl rfl rfl (by decide +kernel) ⟨Nat.le_of_ble_eq_true rfl, Nat.le_of_ble_eq_true rfl⟩) ⟨ny_blind, va_recv hK hP (ci := 3) (q0 := 0) rfl rfl, fun U hU hW => ⟨rfl, ny_preU hE hP hK hD hS hA [0, 1, 2] rfl (by decide) rfl [0, 1] rfl U hU hW⟩⟩ rfl rfl hl.1 rfl (lv_room (Nat.le_of_ble_eq_true rfl)) dX1_many_8 ⟨Nat.le_of_ble_eq_true rfl, Nat.le_of_ble_eq_true rfl⟩)
theorem in_X1_power_X1 : ∀ w ∈ wsX10, w ∈ wsX1_power := (fun _ h => List.mem_cons_of_mem _ (List.mem_append_left _ (List.mem_append_left _ (List.mem_append_left _ (List.mem_append_left _ (List.mem_append_left _ (List.mem_append_right _ h)))))))
set_option maxHeartbeats 4000000 in
set_option maxRecDepth 100000 in
theorem c_X1_power (l : Launch) (D : va_G) (cI : ClassId) (cZ : ClassId) (o : Nat) (q1 : Nat) (q2 : Nat) (q3 : Nat) (q4 : Nat) (sz : Nat) (hf : Nat → Int32) (bf : Nat → Int32) (i0 : Int32) (i1 : Int32) (i2 : Int32) (i3 : Int32) (gp0 : vp_in i0 12) (gp1 : vp_in i1 12) (gp3 : vp_in i3 12) (gn : 0 ≤ i2.toInt ∧ i2.toInt ≤ 1000) (g0 : ¬ hf i3.toNatClampNeg = 0) (gH : ny_H hf) : Met l yX1_power wsX1_power ({ frames := 5, cells := 0, slots := 0, locals := 119 }) (va_Pc [.ref o, .int i0, .int i1, .int i2, .int i3] (ny_pre D [(cI, .int), (cZ, .boolean)] [(o, .inr (3, [.ref q1, .ref q2, .ref q3, .ref q4])), (q1, .inl (cI, 12, .inl hf)), (q2, .inl (cZ, 12, .inl bf))] sz)) (va_Ql (fun (r : Int64) (u : Unit) => r = f_bt (f_pw (hf i1.toNatClampNeg) i2 (hf i3.toNatClampNeg)) 0) (fun (u : Unit) t => ny_at D [(cI, .int), (cZ, .boolean)] (va_A [(o, .inr (3, [.ref q1, .ref q2, .ref q3, .ref q4])), (q1, .inl (cI, 12, .inl hf)), (q2, .inl (cZ, 12, .inl bf))] sz) [(o, .inr (3, [.ref q1, .ref q2, .ref q3, .ref q4])), (q1, .inl (cI, 12, .inl (upd hf i0.toNatClampNeg (f_pw (hf i1.toNatClampNeg) i2 (hf i3.toNatClampNeg))))), (q2, .inl (cZ, 12, .inl (upd bf i0.toNatClampNeg 0)))] t) (va_A [(o, .inr (3, [.ref q1, .ref q2, .ref q3, .ref q4])), (q1, .inl (cI, 12, .inl hf)), (q2, .inl (cZ, 12, .inl bf))] sz)) 0 0 (va_A [(o, .inr (3, [.ref q1, .ref q2, .ref q3, .ref q4])), (q1, .inl (cI, 12, .inl hf)), (q2, .inl (cZ, 12, .inl bf))] sz) := by
  refine Met.ofW (cc := cX1_power) (maxL := 5) (ret := (some .long)) (by decide) rfl ?_
  intro p e s m args below meth c s₁ B hml hv
  obtain ⟨rfl, hsz, hP, hK, hD0, hE⟩ := hv
  have hx := B.exec
  have hb := B.bytes
  have hr := B.returns
  have hts := atoms_spec (ws := wsX1_power) B.pre
  have hown : s.vm.findClass RX1 = some m.cls := findClass_of_methodNamed B.named
  have hlocks := B.notSynchronized
  subst hsz
  have hD := hD0.self (sz := s.heap.size)
  generalize hAe : va_A [(o, .inr (3, [.ref q1, .ref q2, .ref q3, .ref q4])), (q1, .inl (cI, 12, .inl hf)), (q2, .inl (cZ, 12, .inl bf))] s.heap.size = A at hD hE ⊢
  have hA : ∀ q : Nat, s.heap.size ≤ q → A q := fun q h => by rw [← hAe]; exact Or.inr h
  have hS : va_S A s.heap s.heap [] := va_S.rf
  have hl := lv_entry ([.ref o, .int i0, .int i1, .int i2, .int i3]) (n := 5) (Nat.le_of_ble_eq_true rfl)
  rw [lg_entry_eq]
  generalize (lg_sl ([.ref o, .int i0, .int i1, .int i2, .int i3]) ++ List.replicate (5 - (lg_sl ([.ref o, .int i0, .int i1, .int i2, .int i3])).length) Slot.unset).toArray = ls at hl ⊢
  have hl : lv_has ls 5 [(0, .ref o), (1, .int i0), (2, .int i1), (3, .int i2), (4, .int i3)] := hl
  refine lv_iload_n hx hb dX1_power_0 rfl (lv_at hl 1 rfl) ?_
  refine va_csv (va_Run.run (va_runS (As := [.int i0]) (rest := []) ⟨hx, hb, hml, hown, hts⟩ (c_X1_needPlace l i0 (by assumption)) (va_cwS 1 hts gX1_power_X1_needPlace rfl rfl rfl (by decide +kernel) ⟨Nat.le_of_ble_eq_true rfl, Nat.le_of_ble_eq_true rfl⟩) ⟨ny_blindT, fun U hU hW => ⟨rfl, trivial⟩⟩ rfl rfl hl.1 rfl (lv_room (Nat.le_of_ble_eq_true rfl)) dX1_power_1 ⟨Nat.le_of_ble_eq_true rfl, Nat.le_of_ble_eq_true rfl⟩)) (fun hw => ?_)
  refine lv_iload_n hx hb dX1_power_4 rfl (lv_at hl 2 rfl) ?_
  refine va_csv (va_Run.run (va_runS (As := [.int i1]) (rest := []) ⟨hx, hb, hml, hown, hts⟩ (c_X1_needPlace l i1 (by assumption)) (va_cwS 1 hts gX1_power_X1_needPlace rfl rfl rfl (by decide +kernel) ⟨Nat.le_of_ble_eq_true rfl, Nat.le_of_ble_eq_true rfl⟩) ⟨ny_blindT, fun U hU hW => ⟨rfl, trivial⟩⟩ rfl rfl hl.1 rfl (lv_room (Nat.le_of_ble_eq_true rfl)) dX1_power_5 ⟨Nat.le_of_ble_eq_true rfl, Nat.le_of_ble_eq_true rfl⟩)) (fun hw => ?_)
  refine lv_iload hx hb dX1_power_8 (lv_at hl 4 rfl) ?_
  refine va_csv (va_Run.run (va_runS (As := [.int i3]) (rest := []) ⟨hx, hb, hml, hown, hts⟩ (c_X1_needPlace l i3 (by assumption)) (va_cwS 1 hts gX1_power_X1_needPlace rfl rfl rfl (by decide +kernel) ⟨Nat.le_of_ble_eq_true rfl, Nat.le_of_ble_eq_true rfl⟩) ⟨ny_blindT, fun U hU hW => ⟨rfl, trivial⟩⟩ rfl rfl hl.1 rfl (lv_room (Nat.le_of_ble_eq_true rfl)) dX1_power_10 ⟨Nat.le_of_ble_eq_true rfl, Nat.le_of_ble_eq_true rfl⟩)) (fun hw => ?_)
  refine lv_iload_n hx hb dX1_power_13 rfl (lv_at hl 3 rfl) ?_
  refine lv_if_lt (tgt := 24) hx hb dX1_power_14 (by decide) (fun c_14 => absurd c_14 (show ¬ ((i2 : Int32) < 0) by  rw [fa_lt, ny_z0]; omega)) (fun c_14 => ?_)
  refine lv_iload_n hx hb dX1_power_17 rfl (lv_at hl 3 rfl) ?_
  refine lv_sipush (v := 1000) hx hb dX1_power_18 (by decide) ?_
  refine lv_icmp_le (tgt := 34) hx hb dX1_power_21 (by decide) (fun c_21 => ?_) (fun c_21 => absurd (show (i2 : Int32) ≤ 1000 by  have z : (1000 : Int32).toInt = 1000 := rfl; rw [fa_le]; omega) c_21)
  refine lv_aload_n hx hb dX1_power_34 rfl (lv_at hl 0 rfl) ?_
  refine lv_iload_n hx hb dX1_power_35 rfl (lv_at hl 2 rfl) ?_
  refine lv_iload hx hb dX1_power_36 (lv_at hl 4 rfl) ?_
  refine va_csv (va_Run.run (va_runV (As := [.int i1, .int i3]) (rest := []) ⟨hx, hb, hml, hown, hts⟩ (c_X1_needDivision l D cI cZ o q1 q2 q3 q4 s.heap.size hf bf i1 i3 (by assumption) (by assumption) (by assumption)) (cwV 2 hts gX1_power_X1_needDivision rfl rfl rfl (by decide +kernel) ⟨Nat.le_of_ble_eq_true rfl, Nat.le_of_ble_eq_true rfl⟩) ⟨ny_blind, va_recv hK hP (ci := 3) (q0 := 0) rfl rfl, fun U hU hW => ⟨rfl, ny_preU hE hP hK hD hS hA [0, 1, 2] rfl (by decide) rfl [0, 1] rfl U hU hW⟩⟩ rfl rfl hl.1 rfl (lv_room (Nat.le_of_ble_eq_true rfl)) dX1_power_38 ⟨Nat.le_of_ble_eq_true rfl, Nat.le_of_ble_eq_true rfl⟩)) (fun hw => ?_)
  refine lv_aload_n hx hb dX1_power_41 rfl (lv_at hl 0 rfl) ?_
  refine lv_iload_n hx hb dX1_power_42 rfl (lv_at hl 1 rfl) ?_
  refine lv_aload_n hx hb dX1_power_43 rfl (lv_at hl 0 rfl) ?_
  refine va_get (D := D) (ci := 3) (v := .ref q1) (C := RX1) (T := TX1) (N := 4) hx hb hts in_X1_power_X1 hown hK hP 0 rfl rfl 0 (by decide) (hts (.fieldLink RX1 9 "Nearestclock" "held" "[I") (List.mem_of_getElem? (i := 3) rfl)) (fun _ h9 => h9) rfl dX1_power_44 ?_
  refine lv_iload_n hx hb dX1_power_47 rfl (lv_at hl 2 rfl) ?_
  refine va_iald hx hb hK hP 1 0 rfl rfl (by assumption) dX1_power_48 ?_
  refine lv_iload_n hx hb dX1_power_49 rfl (lv_at hl 3 rfl) ?_
  refine lv_aload_n hx hb dX1_power_50 rfl (lv_at hl 0 rfl) ?_
  refine va_get (D := D) (ci := 3) (v := .ref q1) (C := RX1) (T := TX1) (N := 4) hx hb hts in_X1_power_X1 hown hK hP 0 rfl rfl 0 (by decide) (hts (.fieldLink RX1 9 "Nearestclock" "held" "[I") (List.mem_of_getElem? (i := 3) rfl)) (fun _ h9 => h9) rfl dX1_power_51 ?_
  refine lv_iload hx hb dX1_power_54 (lv_at hl 4 rfl) ?_
  refine va_iald hx hb hK hP 1 0 rfl rfl (by assumption) dX1_power_56 ?_
  refine vp_callSi (va_Run.run (va_runS (As := [.int (hf i1.toNatClampNeg), .int i2, .int (hf i3.toNatClampNeg)]) (rest := [.int i0, .ref o]) ⟨hx, hb, hml, hown, hts⟩ (c_X1_powerOf l (hf i1.toNatClampNeg) i2 (hf i3.toNatClampNeg) (gH _ (n_ix gp1)) (gH _ (n_ix gp3)) (by assumption) (by assumption)) (va_cwS 3 hts gX1_power_X1_powerOf rfl rfl rfl (by decide +kernel) ⟨Nat.le_of_ble_eq_true rfl, Nat.le_of_ble_eq_true rfl⟩) ⟨ny_blindT, fun U hU hW => ⟨rfl, trivial⟩⟩ rfl rfl hl.1 rfl (lv_room (Nat.le_of_ble_eq_true rfl)) dX1_power_57 ⟨Nat.le_of_ble_eq_true rfl, Nat.le_of_ble_eq_true rfl⟩)) (fun r_57 hw_57 => ?_)
  have hw_57 : r_57 = f_pw (hf i1.toNatClampNeg) i2 (hf i3.toNatClampNeg) := hw_57
  subst hw_57
  refine lv_i2l hx hb dX1_power_60 rfl ?_
  refine lv_iload hx hb dX1_power_61 (lv_at hl 4 rfl) ?_
  refine ny_l (wc := [(o, .inr (3, [.ref q1, .ref q2, .ref q3, .ref q4])), (q1, .inl (cI, 12, .inl hf)), (q2, .inl (cZ, 12, .inl bf))]) (wr := []) hP hD hS hA [0, 1, 2] [] rfl rfl (by decide) (by decide) (va_runV (As := [.int i0, .long ((f_pw (hf i1.toNatClampNeg) i2 (hf i3.toNatClampNeg)).toInt64), .int i3]) (rest := []) ⟨hx, hb, hml, hown, hts⟩ (c_X1_keepResidue l D cI cZ o q1 q2 q3 q4 s.heap.size hf bf i0 ((f_pw (hf i1.toNatClampNeg) i2 (hf i3.toNatClampNeg)).toInt64) i3 (by assumption) (by assumption) (by assumption) (by assumption) (n_lo _)) (cwV 3 hts gX1_power_X1_keepResidue rfl rfl rfl (by decide +kernel) ⟨Nat.le_of_ble_eq_true rfl, Nat.le_of_ble_eq_true rfl⟩) ⟨ny_blind, va_recv hK hP (ci := 3) (q0 := 0) rfl rfl, fun U hU hW => ⟨rfl, ny_preU hE hP hK hD hS hA [0, 1, 2] rfl (by decide) rfl [0, 1] rfl U hU hW⟩⟩ rfl rfl hl.1 rfl (lv_room (Nat.le_of_ble_eq_true rfl)) dX1_power_63 ⟨Nat.le_of_ble_eq_true rfl, Nat.le_of_ble_eq_true rfl⟩) (fun r_63 u H locs hw_63 hP hD hS => ?_)
  have hP : va_P D vwCl [(o, .inr (3, [.ref q1, .ref q2, .ref q3, .ref q4])), (q1, .inl (cI, 12, .inl (upd hf i0.toNatClampNeg (f_rs ((f_pw (hf i1.toNatClampNeg) i2 (hf i3.toNatClampNeg)).toInt64) (hf i3.toNatClampNeg))))), (q2, .inl (cZ, 12, .inl (upd bf i0.toNatClampNeg 0)))] H := hP
  have hD : va_D A [(o, .inr (3, [.ref q1, .ref q2, .ref q3, .ref q4])), (q1, .inl (cI, 12, .inl (upd hf i0.toNatClampNeg (f_rs ((f_pw (hf i1.toNatClampNeg) i2 (hf i3.toNatClampNeg)).toInt64) (hf i3.toNatClampNeg))))), (q2, .inl (cZ, 12, .inl (upd bf i0.toNatClampNeg 0)))] := hD
  have hw_63 : r_63 = f_bt (f_rs ((f_pw (hf i1.toNatClampNeg) i2 (hf i3.toNatClampNeg)).toInt64) (hf i3.toNatClampNeg)) 0 := hw_63
  subst hw_63
  have hP9 := hP.sub (ws' := [(o, .inr (3, [.ref q1, .ref q2, .ref q3, .ref q4])), (q1, .inl (cI, 12, .inl (upd hf i0.toNatClampNeg (f_rs ((f_pw (hf i1.toNatClampNeg) i2 (hf i3.toNatClampNeg)).toInt64) (hf i3.toNatClampNeg))))), (q2, .inl (cZ, 12, .inl (upd bf i0.toNatClampNeg 0)))]) [0, 1, 2] rfl
  have hD9 := hD.sub (ws' := [(o, .inr (3, [.ref q1, .ref q2, .ref q3, .ref q4])), (q1, .inl (cI, 12, .inl (upd hf i0.toNatClampNeg (f_rs ((f_pw (hf i1.toNatClampNeg) i2 (hf i3.toNatClampNeg)).toInt64) (hf i3.toNatClampNeg))))), (q2, .inl (cZ, 12, .inl (upd bf i0.toNatClampNeg 0)))]) [0, 1, 2] (by decide) rfl
  rw [n_pwI (gH _ (n_ix gp3)) g0] at hP9 hD9
  exact W.lret (v := f_bt (f_rs ((f_pw (hf i1.toNatClampNeg) i2 (hf i3.toNatClampNeg)).toInt64) (hf i3.toNatClampNeg)) 0) hx hb hr (fun t ht hW => ⟨⟨f_bt (f_rs ((f_pw (hf i1.toNatClampNeg) i2 (hf i3.toNatClampNeg)).toInt64) (hf i3.toNatClampNeg)) 0, (), rfl, (by rw [n_pwI (gH _ (n_ix gp3)) g0]), by rw [ht]; exact hP9, va_K.moved hW.alike hK, hD9⟩, hS.F ht⟩) hS.2.2 dX1_power_66
set_option maxHeartbeats 4000000 in
set_option maxRecDepth 100000 in
theorem c_X1_power_noP (l : Launch) (D : va_G) (cI : ClassId) (cZ : ClassId) (o : Nat) (q1 : Nat) (q2 : Nat) (q3 : Nat) (q4 : Nat) (sz : Nat) (hf : Nat → Int32) (bf : Nat → Int32) (i0 : Int32) (i1 : Int32) (i2 : Int32) (i3 : Int32) (gl : l.stackTraces = false) (gb : ¬ vp_in i0 12 ∨ (¬ vp_in i1 12 ∨ ¬ vp_in i3 12)) : vx_Met l yX1_power wsX1_power ({ frames := 7, cells := 1, slots := 6, locals := 110 }) (va_Pc [.ref o, .int i0, .int i1, .int i2, .int i3] (ny_pre D [(cI, .int), (cZ, .boolean)] [(o, .inr (3, [.ref q1, .ref q2, .ref q3, .ref q4])), (q1, .inl (cI, 12, .inl hf)), (q2, .inl (cZ, 12, .inl bf))] sz)) (fun _ _ _ _ => False) (vx_X (fun _ : Unit => True) (fun E' _ _ => E' = ny_IO) (fun _ => False)) 1 6 (va_A [(o, .inr (3, [.ref q1, .ref q2, .ref q3, .ref q4])), (q1, .inl (cI, 12, .inl hf)), (q2, .inl (cZ, 12, .inl bf))] sz) := by
  refine vx_ofW (cc := cX1_power) (maxL := 5) (ret := (some .long)) (by decide) rfl ?_
  intro p e s m args below meth c s₁ B hml ht hv
  obtain ⟨rfl, hsz, hP, hK, hD0, hE⟩ := hv
  have hx := B.exec
  have hb := B.bytes
  have hr := B.returns
  have hts := atoms_spec (ws := wsX1_power) B.pre
  have hown : s.vm.findClass RX1 = some m.cls := findClass_of_methodNamed B.named
  have hlocks := B.notSynchronized
  subst hsz
  have hD := hD0.self (sz := s.heap.size)
  generalize hAe : va_A [(o, .inr (3, [.ref q1, .ref q2, .ref q3, .ref q4])), (q1, .inl (cI, 12, .inl hf)), (q2, .inl (cZ, 12, .inl bf))] s.heap.size = A at hD hE ⊢
  have hA : ∀ q : Nat, s.heap.size ≤ q → A q := fun q h => by rw [← hAe]; exact Or.inr h
  have hS : va_S A s.heap s.heap [] := va_S.rf
  have hl := lv_entry ([.ref o, .int i0, .int i1, .int i2, .int i3]) (n := 5) (Nat.le_of_ble_eq_true rfl)
  rw [lg_entry_eq]
  generalize (lg_sl ([.ref o, .int i0, .int i1, .int i2, .int i3]) ++ List.replicate (5 - (lg_sl ([.ref o, .int i0, .int i1, .int i2, .int i3])).length) Slot.unset).toArray = ls at hl ⊢
  have hl : lv_has ls 5 [(0, .ref o), (1, .int i0), (2, .int i1), (3, .int i2), (4, .int i3)] := hl
  refine lv_iload_n hx hb dX1_power_0 rfl (lv_at hl 1 rfl) ?_
  by_cases q_1 : vp_in i0 12
  · have gb := gb.resolve_left (fun h => h q_1)
    refine va_csv (va_Run.run (va_runS (As := [.int i0]) (rest := []) ⟨hx, hb, hml, hown, hts⟩ (c_X1_needPlace l i0 (by assumption)) (va_cwS 1 hts gX1_power_X1_needPlace rfl rfl rfl (by decide +kernel) ⟨Nat.le_of_ble_eq_true rfl, Nat.le_of_ble_eq_true rfl⟩) ⟨ny_blindT, fun U hU hW => ⟨rfl, trivial⟩⟩ rfl rfl hl.1 rfl (lv_room (Nat.le_of_ble_eq_true rfl)) dX1_power_1 ⟨Nat.le_of_ble_eq_true rfl, Nat.le_of_ble_eq_true rfl⟩)) (fun hw => ?_)
    refine lv_iload_n hx hb dX1_power_4 rfl (lv_at hl 2 rfl) ?_
    by_cases q_5 : vp_in i1 12
    · have gb := gb.resolve_left (fun h => h q_5)
      refine va_csv (va_Run.run (va_runS (As := [.int i1]) (rest := []) ⟨hx, hb, hml, hown, hts⟩ (c_X1_needPlace l i1 (by assumption)) (va_cwS 1 hts gX1_power_X1_needPlace rfl rfl rfl (by decide +kernel) ⟨Nat.le_of_ble_eq_true rfl, Nat.le_of_ble_eq_true rfl⟩) ⟨ny_blindT, fun U hU hW => ⟨rfl, trivial⟩⟩ rfl rfl hl.1 rfl (lv_room (Nat.le_of_ble_eq_true rfl)) dX1_power_5 ⟨Nat.le_of_ble_eq_true rfl, Nat.le_of_ble_eq_true rfl⟩)) (fun hw => ?_)
      refine lv_iload hx hb dX1_power_8 (lv_at hl 4 rfl) ?_
      exact ny_th hS (va_free (wc := []) hD hS hA [] rfl) ht hlocks (Nat.le_of_ble_eq_true rfl) (Nat.le_of_ble_eq_true rfl) (vx_runS (As := [.int i3]) (rest := []) ⟨hx, hb, hml, hown, hts⟩ (c_X1_needPlace_no l D s.heap.size i3 (by assumption) (by assumption)) (va_cwS 1 hts gX1_power_X1_needPlace rfl rfl rfl (by decide +kernel) ⟨Nat.le_of_ble_eq_true rfl, Nat.le_of_ble_eq_true rfl⟩) ⟨ny_blind, fun U hU hW => ⟨rfl, ny_preU hE hP hK hD hS hA [] rfl (by decide) rfl [] rfl U hU hW⟩⟩ rfl rfl hl.1 rfl (lv_room (Nat.le_of_ble_eq_true rfl)) dX1_power_10 ⟨Nat.le_of_ble_eq_true rfl, Nat.le_of_ble_eq_true rfl⟩)
    · exact ny_th hS (va_free (wc := []) hD hS hA [] rfl) ht hlocks (Nat.le_of_ble_eq_true rfl) (Nat.le_of_ble_eq_true rfl) (vx_runS (As := [.int i1]) (rest := []) ⟨hx, hb, hml, hown, hts⟩ (c_X1_needPlace_no l D s.heap.size i1 (by assumption) (by assumption)) (va_cwS 1 hts gX1_power_X1_needPlace rfl rfl rfl (by decide +kernel) ⟨Nat.le_of_ble_eq_true rfl, Nat.le_of_ble_eq_true rfl⟩) ⟨ny_blind, fun U hU hW => ⟨rfl, ny_preU hE hP hK hD hS hA [] rfl (by decide) rfl [] rfl U hU hW⟩⟩ rfl rfl hl.1 rfl (lv_room (Nat.le_of_ble_eq_true rfl)) dX1_power_5 ⟨Nat.le_of_ble_eq_true rfl, Nat.le_of_ble_eq_true rfl⟩)
  · exact ny_th hS (va_free (wc := []) hD hS hA [] rfl) ht hlocks (Nat.le_of_ble_eq_true rfl) (Nat.le_of_ble_eq_true rfl) (vx_runS (As := [.int i0]) (rest := []) ⟨hx, hb, hml, hown, hts⟩ (c_X1_needPlace_no l D s.heap.size i0 (by assumption) (by assumption)) (va_cwS 1 hts gX1_power_X1_needPlace rfl rfl rfl (by decide +kernel) ⟨Nat.le_of_ble_eq_true rfl, Nat.le_of_ble_eq_true rfl⟩) ⟨ny_blind, fun U hU hW => ⟨rfl, ny_preU hE hP hK hD hS hA [] rfl (by decide) rfl [] rfl U hU hW⟩⟩ rfl rfl hl.1 rfl (lv_room (Nat.le_of_ble_eq_true rfl)) dX1_power_1 ⟨Nat.le_of_ble_eq_true rfl, Nat.le_of_ble_eq_true rfl⟩)
set_option maxHeartbeats 4000000 in
set_option maxRecDepth 100000 in
theorem c_X1_power_noA (l : Launch) (D : va_G) (cI : ClassId) (cZ : ClassId) (o : Nat) (q1 : Nat) (q2 : Nat) (q3 : Nat) (q4 : Nat) (sz : Nat) (hf : Nat → Int32) (bf : Nat → Int32) (i0 : Int32) (i1 : Int32) (i2 : Int32) (i3 : Int32) (gl : l.stackTraces = false) (gp0 : vp_in i0 12) (gp1 : vp_in i1 12) (gp3 : vp_in i3 12) (gn : ¬ (0 ≤ i2.toInt ∧ i2.toInt ≤ 1000)) : vx_Met l yX1_power wsX1_power ({ frames := 6, cells := 1, slots := 6, locals := 90 }) (va_Pc [.ref o, .int i0, .int i1, .int i2, .int i3] (ny_pre D [(cI, .int), (cZ, .boolean)] [(o, .inr (3, [.ref q1, .ref q2, .ref q3, .ref q4])), (q1, .inl (cI, 12, .inl hf)), (q2, .inl (cZ, 12, .inl bf))] sz)) (fun _ _ _ _ => False) (vx_X (fun _ : Unit => True) (fun E' _ _ => E' = ny_IA) (fun _ => False)) 1 6 (va_A [(o, .inr (3, [.ref q1, .ref q2, .ref q3, .ref q4])), (q1, .inl (cI, 12, .inl hf)), (q2, .inl (cZ, 12, .inl bf))] sz) := by
  refine vx_ofW (cc := cX1_power) (maxL := 5) (ret := (some .long)) (by decide) rfl ?_
  intro p e s m args below meth c s₁ B hml ht hv
  obtain ⟨rfl, hsz, hP, hK, hD0, hE⟩ := hv
  have hx := B.exec
  have hb := B.bytes
  have hr := B.returns
  have hts := atoms_spec (ws := wsX1_power) B.pre
  have hown : s.vm.findClass RX1 = some m.cls := findClass_of_methodNamed B.named
  have hlocks := B.notSynchronized
  subst hsz
  have hD := hD0.self (sz := s.heap.size)
  generalize hAe : va_A [(o, .inr (3, [.ref q1, .ref q2, .ref q3, .ref q4])), (q1, .inl (cI, 12, .inl hf)), (q2, .inl (cZ, 12, .inl bf))] s.heap.size = A at hD hE ⊢
  have hA : ∀ q : Nat, s.heap.size ≤ q → A q := fun q h => by rw [← hAe]; exact Or.inr h
  have hS : va_S A s.heap s.heap [] := va_S.rf
  have hl := lv_entry ([.ref o, .int i0, .int i1, .int i2, .int i3]) (n := 5) (Nat.le_of_ble_eq_true rfl)
  rw [lg_entry_eq]
  generalize (lg_sl ([.ref o, .int i0, .int i1, .int i2, .int i3]) ++ List.replicate (5 - (lg_sl ([.ref o, .int i0, .int i1, .int i2, .int i3])).length) Slot.unset).toArray = ls at hl ⊢
  have hl : lv_has ls 5 [(0, .ref o), (1, .int i0), (2, .int i1), (3, .int i2), (4, .int i3)] := hl
  refine lv_iload_n hx hb dX1_power_0 rfl (lv_at hl 1 rfl) ?_
  refine va_csv (va_Run.run (va_runS (As := [.int i0]) (rest := []) ⟨hx, hb, hml, hown, hts⟩ (c_X1_needPlace l i0 (by assumption)) (va_cwS 1 hts gX1_power_X1_needPlace rfl rfl rfl (by decide +kernel) ⟨Nat.le_of_ble_eq_true rfl, Nat.le_of_ble_eq_true rfl⟩) ⟨ny_blindT, fun U hU hW => ⟨rfl, trivial⟩⟩ rfl rfl hl.1 rfl (lv_room (Nat.le_of_ble_eq_true rfl)) dX1_power_1 ⟨Nat.le_of_ble_eq_true rfl, Nat.le_of_ble_eq_true rfl⟩)) (fun hw => ?_)
  refine lv_iload_n hx hb dX1_power_4 rfl (lv_at hl 2 rfl) ?_
  refine va_csv (va_Run.run (va_runS (As := [.int i1]) (rest := []) ⟨hx, hb, hml, hown, hts⟩ (c_X1_needPlace l i1 (by assumption)) (va_cwS 1 hts gX1_power_X1_needPlace rfl rfl rfl (by decide +kernel) ⟨Nat.le_of_ble_eq_true rfl, Nat.le_of_ble_eq_true rfl⟩) ⟨ny_blindT, fun U hU hW => ⟨rfl, trivial⟩⟩ rfl rfl hl.1 rfl (lv_room (Nat.le_of_ble_eq_true rfl)) dX1_power_5 ⟨Nat.le_of_ble_eq_true rfl, Nat.le_of_ble_eq_true rfl⟩)) (fun hw => ?_)
  refine lv_iload hx hb dX1_power_8 (lv_at hl 4 rfl) ?_
  refine va_csv (va_Run.run (va_runS (As := [.int i3]) (rest := []) ⟨hx, hb, hml, hown, hts⟩ (c_X1_needPlace l i3 (by assumption)) (va_cwS 1 hts gX1_power_X1_needPlace rfl rfl rfl (by decide +kernel) ⟨Nat.le_of_ble_eq_true rfl, Nat.le_of_ble_eq_true rfl⟩) ⟨ny_blindT, fun U hU hW => ⟨rfl, trivial⟩⟩ rfl rfl hl.1 rfl (lv_room (Nat.le_of_ble_eq_true rfl)) dX1_power_10 ⟨Nat.le_of_ble_eq_true rfl, Nat.le_of_ble_eq_true rfl⟩)) (fun hw => ?_)
  refine lv_iload_n hx hb dX1_power_13 rfl (lv_at hl 3 rfl) ?_
  refine lv_if_lt (tgt := 24) hx hb dX1_power_14 (by decide) (fun c_14 => ?_) (fun c_14 => ?_)
  · exact ny_throw (cls := ny_IA) hx hb gl hown (by decide) (hts (.classLink RX1 31 "java/lang/IllegalArgumentException") (List.mem_of_getElem? (i := 1) rfl)) (hts (.initialized "java/lang/IllegalArgumentException") (List.mem_of_getElem? (i := 2) rfl)) hE (List.mem_of_getElem? (i := 3) rfl) (List.mem_of_getElem? (i := 1) rfl) (fun w h => hts w ((fun _ h => List.mem_cons_of_mem _ (List.mem_append_left _ (List.mem_append_left _ (List.mem_append_left _ (List.mem_append_left _ (List.mem_append_right _ h)))))) w h)) ny_b35 ny_h35 hS (hl.1.trans hml.symm) dX1_power_24 dX1_power_27 dX1_power_28 dX1_power_30 dX1_power_33 ht (Nat.le_of_ble_eq_true rfl) (Nat.le_of_ble_eq_true rfl) (Nat.le_of_ble_eq_true rfl) (Nat.le_of_ble_eq_true rfl) hlocks (Nat.le_of_ble_eq_true rfl) (Nat.le_of_ble_eq_true rfl)
  · refine lv_iload_n hx hb dX1_power_17 rfl (lv_at hl 3 rfl) ?_
    refine lv_sipush (v := 1000) hx hb dX1_power_18 (by decide) ?_
    refine lv_icmp_le (tgt := 34) hx hb dX1_power_21 (by decide) (fun c_21 => absurd c_21 (show ¬ ((i2 : Int32) ≤ 1000) by  have z2 : (1000 : Int32).toInt = 1000 := rfl; intro q; rw [fa_le] at q; rw [fa_lt, ny_z0] at c_14; exact gn ⟨by omega, by omega⟩)) (fun c_21 => ?_)
    exact ny_throw (cls := ny_IA) hx hb gl hown (by decide) (hts (.classLink RX1 31 "java/lang/IllegalArgumentException") (List.mem_of_getElem? (i := 1) rfl)) (hts (.initialized "java/lang/IllegalArgumentException") (List.mem_of_getElem? (i := 2) rfl)) hE (List.mem_of_getElem? (i := 3) rfl) (List.mem_of_getElem? (i := 1) rfl) (fun w h => hts w ((fun _ h => List.mem_cons_of_mem _ (List.mem_append_left _ (List.mem_append_left _ (List.mem_append_left _ (List.mem_append_left _ (List.mem_append_right _ h)))))) w h)) ny_b35 ny_h35 hS (hl.1.trans hml.symm) dX1_power_24 dX1_power_27 dX1_power_28 dX1_power_30 dX1_power_33 ht (Nat.le_of_ble_eq_true rfl) (Nat.le_of_ble_eq_true rfl) (Nat.le_of_ble_eq_true rfl) (Nat.le_of_ble_eq_true rfl) hlocks (Nat.le_of_ble_eq_true rfl) (Nat.le_of_ble_eq_true rfl)
set_option maxHeartbeats 4000000 in
set_option maxRecDepth 100000 in
theorem c_X1_power_no0 (l : Launch) (D : va_G) (cI : ClassId) (cZ : ClassId) (o : Nat) (q1 : Nat) (q2 : Nat) (q3 : Nat) (q4 : Nat) (sz : Nat) (hf : Nat → Int32) (bf : Nat → Int32) (i0 : Int32) (i1 : Int32) (i2 : Int32) (i3 : Int32) (gl : l.stackTraces = false) (gp0 : vp_in i0 12) (gp1 : vp_in i1 12) (gp3 : vp_in i3 12) (g0 : hf i3.toNatClampNeg = 0) (gn : 0 ≤ i2.toInt ∧ i2.toInt ≤ 1000) : vx_Met l yX1_power wsX1_power ({ frames := 7, cells := 1, slots := 6, locals := 112 }) (va_Pc [.ref o, .int i0, .int i1, .int i2, .int i3] (ny_pre D [(cI, .int), (cZ, .boolean)] [(o, .inr (3, [.ref q1, .ref q2, .ref q3, .ref q4])), (q1, .inl (cI, 12, .inl hf)), (q2, .inl (cZ, 12, .inl bf))] sz)) (fun _ _ _ _ => False) (vx_X (fun _ : Unit => True) (fun E' _ _ => E' = ny_AE) (fun _ => False)) 1 6 (va_A [(o, .inr (3, [.ref q1, .ref q2, .ref q3, .ref q4])), (q1, .inl (cI, 12, .inl hf)), (q2, .inl (cZ, 12, .inl bf))] sz) := by
  refine vx_ofW (cc := cX1_power) (maxL := 5) (ret := (some .long)) (by decide) rfl ?_
  intro p e s m args below meth c s₁ B hml ht hv
  obtain ⟨rfl, hsz, hP, hK, hD0, hE⟩ := hv
  have hx := B.exec
  have hb := B.bytes
  have hr := B.returns
  have hts := atoms_spec (ws := wsX1_power) B.pre
  have hown : s.vm.findClass RX1 = some m.cls := findClass_of_methodNamed B.named
  have hlocks := B.notSynchronized
  subst hsz
  have hD := hD0.self (sz := s.heap.size)
  generalize hAe : va_A [(o, .inr (3, [.ref q1, .ref q2, .ref q3, .ref q4])), (q1, .inl (cI, 12, .inl hf)), (q2, .inl (cZ, 12, .inl bf))] s.heap.size = A at hD hE ⊢
  have hA : ∀ q : Nat, s.heap.size ≤ q → A q := fun q h => by rw [← hAe]; exact Or.inr h
  have hS : va_S A s.heap s.heap [] := va_S.rf
  have hl := lv_entry ([.ref o, .int i0, .int i1, .int i2, .int i3]) (n := 5) (Nat.le_of_ble_eq_true rfl)
  rw [lg_entry_eq]
  generalize (lg_sl ([.ref o, .int i0, .int i1, .int i2, .int i3]) ++ List.replicate (5 - (lg_sl ([.ref o, .int i0, .int i1, .int i2, .int i3])).length) Slot.unset).toArray = ls at hl ⊢
  have hl : lv_has ls 5 [(0, .ref o), (1, .int i0), (2, .int i1), (3, .int i2), (4, .int i3)] := hl
  refine lv_iload_n hx hb dX1_power_0 rfl (lv_at hl 1 rfl) ?_
  refine va_csv (va_Run.run (va_runS (As := [.int i0]) (rest := []) ⟨hx, hb, hml, hown, hts⟩ (c_X1_needPlace l i0 (by assumption)) (va_cwS 1 hts gX1_power_X1_needPlace rfl rfl rfl (by decide +kernel) ⟨Nat.le_of_ble_eq_true rfl, Nat.le_of_ble_eq_true rfl⟩) ⟨ny_blindT, fun U hU hW => ⟨rfl, trivial⟩⟩ rfl rfl hl.1 rfl (lv_room (Nat.le_of_ble_eq_true rfl)) dX1_power_1 ⟨Nat.le_of_ble_eq_true rfl, Nat.le_of_ble_eq_true rfl⟩)) (fun hw => ?_)
  refine lv_iload_n hx hb dX1_power_4 rfl (lv_at hl 2 rfl) ?_
  refine va_csv (va_Run.run (va_runS (As := [.int i1]) (rest := []) ⟨hx, hb, hml, hown, hts⟩ (c_X1_needPlace l i1 (by assumption)) (va_cwS 1 hts gX1_power_X1_needPlace rfl rfl rfl (by decide +kernel) ⟨Nat.le_of_ble_eq_true rfl, Nat.le_of_ble_eq_true rfl⟩) ⟨ny_blindT, fun U hU hW => ⟨rfl, trivial⟩⟩ rfl rfl hl.1 rfl (lv_room (Nat.le_of_ble_eq_true rfl)) dX1_power_5 ⟨Nat.le_of_ble_eq_true rfl, Nat.le_of_ble_eq_true rfl⟩)) (fun hw => ?_)
  refine lv_iload hx hb dX1_power_8 (lv_at hl 4 rfl) ?_
  refine va_csv (va_Run.run (va_runS (As := [.int i3]) (rest := []) ⟨hx, hb, hml, hown, hts⟩ (c_X1_needPlace l i3 (by assumption)) (va_cwS 1 hts gX1_power_X1_needPlace rfl rfl rfl (by decide +kernel) ⟨Nat.le_of_ble_eq_true rfl, Nat.le_of_ble_eq_true rfl⟩) ⟨ny_blindT, fun U hU hW => ⟨rfl, trivial⟩⟩ rfl rfl hl.1 rfl (lv_room (Nat.le_of_ble_eq_true rfl)) dX1_power_10 ⟨Nat.le_of_ble_eq_true rfl, Nat.le_of_ble_eq_true rfl⟩)) (fun hw => ?_)
  refine lv_iload_n hx hb dX1_power_13 rfl (lv_at hl 3 rfl) ?_
  refine lv_if_lt (tgt := 24) hx hb dX1_power_14 (by decide) (fun c_14 => absurd c_14 (show ¬ ((i2 : Int32) < 0) by  rw [fa_lt, ny_z0]; omega)) (fun c_14 => ?_)
  refine lv_iload_n hx hb dX1_power_17 rfl (lv_at hl 3 rfl) ?_
  refine lv_sipush (v := 1000) hx hb dX1_power_18 (by decide) ?_
  refine lv_icmp_le (tgt := 34) hx hb dX1_power_21 (by decide) (fun c_21 => ?_) (fun c_21 => absurd (show (i2 : Int32) ≤ 1000 by  have z : (1000 : Int32).toInt = 1000 := rfl; rw [fa_le]; omega) c_21)
  refine lv_aload_n hx hb dX1_power_34 rfl (lv_at hl 0 rfl) ?_
  refine lv_iload_n hx hb dX1_power_35 rfl (lv_at hl 2 rfl) ?_
  refine lv_iload hx hb dX1_power_36 (lv_at hl 4 rfl) ?_
  exact ny_th hS (va_free (wc := [(o, .inr (3, [.ref q1, .ref q2, .ref q3, .ref q4])), (q1, .inl (cI, 12, .inl hf)), (q2, .inl (cZ, 12, .inl bf))]) hD hS hA [0, 1, 2] rfl) ht hlocks (Nat.le_of_ble_eq_true rfl) (Nat.le_of_ble_eq_true rfl) (vx_runV (As := [.int i1, .int i3]) (rest := []) ⟨hx, hb, hml, hown, hts⟩ (c_X1_needDivision_no0 l D cI cZ o q1 q2 q3 q4 s.heap.size hf bf i1 i3 (by assumption) (by assumption) (by assumption) (by assumption)) (cwV 2 hts gX1_power_X1_needDivision rfl rfl rfl (by decide +kernel) ⟨Nat.le_of_ble_eq_true rfl, Nat.le_of_ble_eq_true rfl⟩) ⟨ny_blind, va_recv hK hP (ci := 3) (q0 := 0) rfl rfl, fun U hU hW => ⟨rfl, ny_preU hE hP hK hD hS hA [0, 1, 2] rfl (by decide) rfl [0, 1] rfl U hU hW⟩⟩ rfl rfl hl.1 rfl (lv_room (Nat.le_of_ble_eq_true rfl)) dX1_power_38 ⟨Nat.le_of_ble_eq_true rfl, Nat.le_of_ble_eq_true rfl⟩)
theorem in_X1_sum_X1 : ∀ w ∈ wsX10, w ∈ wsX1_sum := (fun _ h => List.mem_cons_of_mem _ (List.mem_append_left _ (List.mem_append_right _ h)))
set_option maxHeartbeats 4000000 in
set_option maxRecDepth 100000 in
theorem c_X1_sum (l : Launch) (D : va_G) (cI : ClassId) (cZ : ClassId) (o : Nat) (q1 : Nat) (q2 : Nat) (q3 : Nat) (q4 : Nat) (sz : Nat) (hf : Nat → Int32) (bf : Nat → Int32) : Met l yX1_sum wsX1_sum ({ frames := 0, cells := 0, slots := 0, locals := 0 }) (va_Pc [.ref o] (ny_pre D [(cI, .int), (cZ, .boolean)] [(o, .inr (3, [.ref q1, .ref q2, .ref q3, .ref q4])), (q1, .inl (cI, 12, .inl hf)), (q2, .inl (cZ, 12, .inl bf))] sz)) (vp_Si (fun r => r = f_sum hf 12)) 0 0 (fun _ => False) := by
  refine Met.ofW (cc := cX1_sum) (maxL := 3) (ret := (some .int)) (by decide) rfl ?_
  intro p e s m args below meth c s₁ B hml hv
  obtain ⟨rfl, hsz, hP, hK, hD0, hE⟩ := hv
  have hx := B.exec
  have hb := B.bytes
  have hr := B.returns
  have hts := atoms_spec (ws := wsX1_sum) B.pre
  have hown : s.vm.findClass RX1 = some m.cls := findClass_of_methodNamed B.named
  have hlocks := B.notSynchronized
  subst hsz
  have hD := hD0.self (sz := s.heap.size)
  generalize hAe : va_A [(o, .inr (3, [.ref q1, .ref q2, .ref q3, .ref q4])), (q1, .inl (cI, 12, .inl hf)), (q2, .inl (cZ, 12, .inl bf))] s.heap.size = A at hD hE
  have hA : ∀ q : Nat, s.heap.size ≤ q → A q := fun q h => by rw [← hAe]; exact Or.inr h
  have hS : va_S A s.heap s.heap [] := va_S.rf
  have hl := lv_entry ([.ref o]) (n := 3) (Nat.le_of_ble_eq_true rfl)
  rw [lg_entry_eq]
  generalize (lg_sl ([.ref o]) ++ List.replicate (3 - (lg_sl ([.ref o])).length) Slot.unset).toArray = ls at hl ⊢
  have hl : lv_has ls 3 [(0, .ref o)] := hl
  refine lv_iconst (v := 0) hx hb dX1_sum_0 (by decide) ?_
  refine ny_ti (x2 := f_sum hf 0) (rfl) ?_
  refine lv_istore_n (lv' := [(1, .int (f_sum hf 0)), (0, .ref o)]) hx hb dX1_sum_1 rfl hl (by decide) rfl (fun ls hl => ?_)
  refine lv_iconst (v := 0) hx hb dX1_sum_2 (by decide) ?_
  refine ny_ti (x2 := nI 0) (rfl) ?_
  refine lv_istore_n (lv' := [(2, .int (nI 0)), (1, .int (f_sum hf 0)), (0, .ref o)]) hx hb dX1_sum_3 rfl hl (by decide) rfl (fun ls hl => ?_)
  refine ny_lp 4 3 (fun u : Nat => u ≤ 12) (fun u => 12 - u) (fun u => [(0, .ref o), (1, .int (f_sum hf u)), (2, .int (nI u))]) (fun u hu ih ls hl => ?_) 0 (show 0 ≤ 12 from by decide) (lv_sub hl [2, 1, 0] rfl)
  obtain ⟨k, rfl⟩ : ∃ z, z = u := ⟨_, rfl⟩
  have hk : k ≤ 12 := hu
  have hl : lv_has ls 3 [(0, .ref o), (1, .int (f_sum hf k)), (2, .int (nI k))] := hl
  refine lv_iload_n hx hb dX1_sum_4 rfl (lv_at hl 2 rfl) ?_
  refine lv_bipush (v := 12) hx hb dX1_sum_5 (by decide) ?_
  refine lv_icmp_ge (tgt := 25) hx hb dX1_sum_7 (by decide) (fun c_7 => ?_) (fun c_7 => ?_)
  · refine lv_iload_n hx hb dX1_sum_25 rfl (lv_at hl 1 rfl) ?_
    exact W.iret (v := f_sum hf k) hx hb hr (fun t ht hW => ⟨f_sum hf k, rfl, (by rw [n_ge12 hk c_7]), ht⟩) (fun q hq => absurd hq List.not_mem_nil) dX1_sum_26
  · have hk2 := n_lt12 hk c_7
    refine lv_iload_n hx hb dX1_sum_10 rfl (lv_at hl 1 rfl) ?_
    refine lv_aload_n hx hb dX1_sum_11 rfl (lv_at hl 0 rfl) ?_
    refine va_get (D := D) (ci := 3) (v := .ref q1) (C := RX1) (T := TX1) (N := 4) hx hb hts in_X1_sum_X1 hown hK hP 0 rfl rfl 0 (by decide) (hts (.fieldLink RX1 9 "Nearestclock" "held" "[I") (List.mem_of_getElem? (i := 1) rfl)) (fun _ h9 => h9) rfl dX1_sum_12 ?_
    refine lv_iload_n hx hb dX1_sum_15 rfl (lv_at hl 2 rfl) ?_
    refine va_iald hx hb hK hP 1 0 rfl rfl (vp_in_nI hk2 (by decide)) dX1_sum_16 ?_
    refine lv_iadd hx hb dX1_sum_17 ?_
    refine ny_ti (x2 := f_sum hf (k + 1)) (n_sumS hk2) ?_
    refine lv_istore_n (lv' := [(1, .int (f_sum hf (k + 1))), (0, .ref o), (2, .int (nI k))]) hx hb dX1_sum_18 rfl hl (by decide) rfl (fun ls hl => ?_)
    refine lv_iinc (v := nI (k + 1)) (lv' := [(2, .int (nI (k + 1))), (1, .int (f_sum hf (k + 1))), (0, .ref o)]) hx hb dX1_sum_19 hl (k := 2) rfl (n_incN k) (by decide) rfl (fun ls hl => ?_)
    refine lv_goto (tgt := 4) hx hb dX1_sum_22 (by decide) ?_
    exact ih (k + 1) (show (k + 1) ≤ 12 from by omega) (show 12 - (k + 1) < 12 - k by omega) _ (lv_sub hl [2, 1, 0] rfl)

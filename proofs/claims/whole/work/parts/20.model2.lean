/-! THE REFERENCE, by contract, the rest. -/
theorem n_R_pw {x n y : Int32} (gy : ny_R y) (g0 : ¬ y = 0) : ny_R (f_pw x n y) := by
  rw [← n_pwI gy g0]
  exact ny_R_rs gy g0
set_option maxHeartbeats 4000000 in
set_option maxRecDepth 100000 in
theorem c_X2_rest (l : Launch) (D : va_G) (cI : ClassId) (cZ : ClassId) (mo : Nat) (m1 : Nat) (m2 : Nat) (m3 : Nat) (m4 : Nat) (sz : Nat) (th : Int32) (mn : Int32) (hf : Nat → Int32) (bf : Nat → Int32) (i0 : Int32) (i1 : Int32) (i2 : Int32) (gp0 : vp_in i0 12) (gp1 : vp_in i1 12) (gp2 : vp_in i2 12) (g0 : ¬ hf i2.toNatClampNeg = 0) (gH : ny_H hf) (gB : ny_BB bf) : Met l yX2_rest wsX2_rest ({ frames := 3, cells := 0, slots := 0, locals := 70 }) (va_Pc [.ref mo, .int i0, .int i1, .int i2] (ny_pre D [(cI, .int), (cZ, .boolean)] [(mo, .inr (4, [.int th, .ref m1, .ref m2, .ref m3, .ref m4, .int mn])), (m1, .inl (cI, 12, .inl hf)), (m2, .inl (cZ, 12, .inl bf))] sz)) (va_Ql (fun (r : Int64) (u : Unit) => r = f_bt (f_re (hf i1.toNatClampNeg) (hf i2.toNatClampNeg)) (f_un (hf i1.toNatClampNeg) (bf i1.toNatClampNeg))) (fun (u : Unit) t => ny_at D [(cI, .int), (cZ, .boolean)] (va_A [(mo, .inr (4, [.int th, .ref m1, .ref m2, .ref m3, .ref m4, .int mn])), (m1, .inl (cI, 12, .inl hf)), (m2, .inl (cZ, 12, .inl bf))] sz) [(mo, .inr (4, [.int 0, .ref m1, .ref m2, .ref m3, .ref m4, .int mn])), (m1, .inl (cI, 12, .inl (upd hf i0.toNatClampNeg (f_re (hf i1.toNatClampNeg) (hf i2.toNatClampNeg))))), (m2, .inl (cZ, 12, .inl (upd bf i0.toNatClampNeg (f_z (f_re (hf i1.toNatClampNeg) (hf i2.toNatClampNeg)) (f_un (hf i1.toNatClampNeg) (bf i1.toNatClampNeg))))))] t) (va_A [(mo, .inr (4, [.int th, .ref m1, .ref m2, .ref m3, .ref m4, .int mn])), (m1, .inl (cI, 12, .inl hf)), (m2, .inl (cZ, 12, .inl bf))] sz)) 0 0 (va_A [(mo, .inr (4, [.int th, .ref m1, .ref m2, .ref m3, .ref m4, .int mn])), (m1, .inl (cI, 12, .inl hf)), (m2, .inl (cZ, 12, .inl bf))] sz) := by
  refine Met.ofW (cc := cX2_rest) (maxL := 4) (ret := (some .long)) (by decide) rfl ?_
  intro p e s m args below meth c s₁ B hml hv
  obtain ⟨rfl, hsz, hP, hK, hD0, hE⟩ := hv
  have hx := B.exec
  have hb := B.bytes
  have hr := B.returns
  have hts := atoms_spec (ws := wsX2_rest) B.pre
  have hown : s.vm.findClass RX2 = some m.cls := findClass_of_methodNamed B.named
  have hlocks := B.notSynchronized
  subst hsz
  have hD := hD0.self (sz := s.heap.size)
  generalize hAe : va_A [(mo, .inr (4, [.int th, .ref m1, .ref m2, .ref m3, .ref m4, .int mn])), (m1, .inl (cI, 12, .inl hf)), (m2, .inl (cZ, 12, .inl bf))] s.heap.size = A at hD hE ⊢
  have hA : ∀ q : Nat, s.heap.size ≤ q → A q := fun q h => by rw [← hAe]; exact Or.inr h
  have hS : va_S A s.heap s.heap [] := va_S.rf
  have hl := lv_entry ([.ref mo, .int i0, .int i1, .int i2]) (n := 4) (Nat.le_of_ble_eq_true rfl)
  rw [lg_entry_eq]
  generalize (lg_sl ([.ref mo, .int i0, .int i1, .int i2]) ++ List.replicate (4 - (lg_sl ([.ref mo, .int i0, .int i1, .int i2])).length) Slot.unset).toArray = ls at hl ⊢
  have hl : lv_has ls 4 [(0, .ref mo), (1, .int i0), (2, .int i1), (3, .int i2)] := hl
  refine lv_aload_n hx hb dX2_rest_0 rfl (lv_at hl 0 rfl) ?_
  refine lv_iload_n hx hb dX2_rest_1 rfl (lv_at hl 1 rfl) ?_
  refine lv_iload_n hx hb dX2_rest_2 rfl (lv_at hl 2 rfl) ?_
  refine lv_iload_n hx hb dX2_rest_3 rfl (lv_at hl 2 rfl) ?_
  refine lv_iload_n hx hb dX2_rest_4 rfl (lv_at hl 3 rfl) ?_
  refine ny_i (wc := [(mo, .inr (4, [.int th, .ref m1, .ref m2, .ref m3, .ref m4, .int mn])), (m1, .inl (cI, 12, .inl hf))]) (wr := [(m2, .inl (cZ, 12, .inl bf))]) hP hD hS hA [0, 1] [2] rfl rfl (by decide) (by decide) (va_runV (As := [.int i0, .int i1, .int i1, .int i2]) (rest := []) ⟨hx, hb, hml, hown, hts⟩ (c_X2_isBad l D cI mo m1 m2 m3 m4 s.heap.size th mn hf i0 i1 i1 i2 (by assumption) (by assumption) (by assumption) (by assumption) (by assumption)) (cwV 4 hts gX2_rest_X2_isBad rfl rfl rfl (by decide +kernel) ⟨Nat.le_of_ble_eq_true rfl, Nat.le_of_ble_eq_true rfl⟩) ⟨ny_blind, va_recv hK hP (ci := 4) (q0 := 0) rfl rfl, fun U hU hW => ⟨rfl, ny_preU hE hP hK hD hS hA [0, 1] rfl (by decide) rfl [0] rfl U hU hW⟩⟩ rfl rfl hl.1 rfl (lv_room (Nat.le_of_ble_eq_true rfl)) dX2_rest_5 ⟨Nat.le_of_ble_eq_true rfl, Nat.le_of_ble_eq_true rfl⟩) (fun r_5 u H locs hw_5 hP hD hS => ?_)
  have hP : va_P D vwCl [(m2, .inl (cZ, 12, .inl bf)), (mo, .inr (4, [.int 0, .ref m1, .ref m2, .ref m3, .ref m4, .int mn])), (m1, .inl (cI, 12, .inl hf))] H := hP
  have hD : va_D A [(m2, .inl (cZ, 12, .inl bf)), (mo, .inr (4, [.int 0, .ref m1, .ref m2, .ref m3, .ref m4, .int mn])), (m1, .inl (cI, 12, .inl hf))] := hD
  have hw_5 : r_5 = 0 := hw_5
  subst hw_5
  refine lv_if_eq (tgt := 15) hx hb dX2_rest_8 (by decide) (fun c_8 => ?_) (fun c_8 => absurd (show (0 : Int32) = 0 by  decide) c_8)
  refine lv_aload_n hx hb dX2_rest_15 rfl (lv_at hl 0 rfl) ?_
  refine lv_iload_n hx hb dX2_rest_16 rfl (lv_at hl 1 rfl) ?_
  refine lv_aload_n hx hb dX2_rest_17 rfl (lv_at hl 0 rfl) ?_
  refine lv_iload_n hx hb dX2_rest_18 rfl (lv_at hl 2 rfl) ?_
  refine lv_iload_n hx hb dX2_rest_19 rfl (lv_at hl 3 rfl) ?_
  refine vp_callSi (va_Run.run (va_runV (As := [.int i1, .int i2]) (rest := [.int i0, .ref mo]) ⟨hx, hb, hml, hown, hts⟩ (c_X2_left l D cI mo m1 m2 m3 m4 H.size 0 mn hf i1 i2 (by assumption) (by assumption) (by assumption) (by assumption)) (cwV 2 hts gX2_rest_X2_left rfl rfl rfl (by decide +kernel) ⟨Nat.le_of_ble_eq_true rfl, Nat.le_of_ble_eq_true rfl⟩) ⟨ny_blind, va_recv hK hP (ci := 4) (q0 := 1) rfl rfl, fun U hU hW => ⟨rfl, ny_preU hE hP hK hD hS hA [1, 2] rfl (by decide) rfl [0] rfl U hU hW⟩⟩ rfl rfl hl.1 rfl (lv_room (Nat.le_of_ble_eq_true rfl)) dX2_rest_20 ⟨Nat.le_of_ble_eq_true rfl, Nat.le_of_ble_eq_true rfl⟩)) (fun r_20 hw_20 => ?_)
  have hw_20 : r_20 = f_re (hf i1.toNatClampNeg) (hf i2.toNatClampNeg) := hw_20
  subst hw_20
  refine lv_aload_n hx hb dX2_rest_23 rfl (lv_at hl 0 rfl) ?_
  refine lv_iload_n hx hb dX2_rest_24 rfl (lv_at hl 2 rfl) ?_
  refine vp_callSi (va_Run.run (va_runV (As := [.int i1]) (rest := [.int (f_re (hf i1.toNatClampNeg) (hf i2.toNatClampNeg)), .int i0, .ref mo]) ⟨hx, hb, hml, hown, hts⟩ (c_X2_isUnder l D cI cZ mo m1 m2 m3 m4 H.size 0 mn hf bf i1 (by assumption) (by assumption)) (cwV 1 hts gX2_rest_X2_isUnder rfl rfl rfl (by decide +kernel) ⟨Nat.le_of_ble_eq_true rfl, Nat.le_of_ble_eq_true rfl⟩) ⟨ny_blind, va_recv hK hP (ci := 4) (q0 := 1) rfl rfl, fun U hU hW => ⟨rfl, ny_preU hE hP hK hD hS hA [1, 2, 0] rfl (by decide) rfl [0, 1] rfl U hU hW⟩⟩ rfl rfl hl.1 rfl (lv_room (Nat.le_of_ble_eq_true rfl)) dX2_rest_25 ⟨Nat.le_of_ble_eq_true rfl, Nat.le_of_ble_eq_true rfl⟩)) (fun r_25 hw_25 => ?_)
  have hw_25 : r_25 = f_un (hf i1.toNatClampNeg) (bf i1.toNatClampNeg) := hw_25
  subst hw_25
  refine ny_l (wc := [(mo, .inr (4, [.int 0, .ref m1, .ref m2, .ref m3, .ref m4, .int mn])), (m1, .inl (cI, 12, .inl hf)), (m2, .inl (cZ, 12, .inl bf))]) (wr := []) hP hD hS hA [1, 2, 0] [] rfl rfl (by decide) (by decide) (va_runV (As := [.int i0, .int (f_re (hf i1.toNatClampNeg) (hf i2.toNatClampNeg)), .int (f_un (hf i1.toNatClampNeg) (bf i1.toNatClampNeg))]) (rest := []) ⟨hx, hb, hml, hown, hts⟩ (c_X2_lays l D cI cZ mo m1 m2 m3 m4 H.size 0 mn hf bf i0 (f_re (hf i1.toNatClampNeg) (hf i2.toNatClampNeg)) (f_un (hf i1.toNatClampNeg) (bf i1.toNatClampNeg)) (by assumption) (ny_R_re (gH _ (n_ix gp2)) g0) (f_un_B (gB _ (n_ix gp1)))) (cwV 3 hts gX2_rest_X2_lays rfl rfl rfl (by decide +kernel) ⟨Nat.le_of_ble_eq_true rfl, Nat.le_of_ble_eq_true rfl⟩) ⟨ny_blind, va_recv hK hP (ci := 4) (q0 := 1) rfl rfl, fun U hU hW => ⟨rfl, ny_preU hE hP hK hD hS hA [1, 2, 0] rfl (by decide) rfl [0, 1] rfl U hU hW⟩⟩ rfl rfl hl.1 rfl (lv_room (Nat.le_of_ble_eq_true rfl)) dX2_rest_28 ⟨Nat.le_of_ble_eq_true rfl, Nat.le_of_ble_eq_true rfl⟩) (fun r_28 u H locs hw_28 hP hD hS => ?_)
  have hP : va_P D vwCl [(mo, .inr (4, [.int 0, .ref m1, .ref m2, .ref m3, .ref m4, .int mn])), (m1, .inl (cI, 12, .inl (upd hf i0.toNatClampNeg (f_re (hf i1.toNatClampNeg) (hf i2.toNatClampNeg))))), (m2, .inl (cZ, 12, .inl (upd bf i0.toNatClampNeg (f_z (f_re (hf i1.toNatClampNeg) (hf i2.toNatClampNeg)) (f_un (hf i1.toNatClampNeg) (bf i1.toNatClampNeg))))))] H := hP
  have hD : va_D A [(mo, .inr (4, [.int 0, .ref m1, .ref m2, .ref m3, .ref m4, .int mn])), (m1, .inl (cI, 12, .inl (upd hf i0.toNatClampNeg (f_re (hf i1.toNatClampNeg) (hf i2.toNatClampNeg))))), (m2, .inl (cZ, 12, .inl (upd bf i0.toNatClampNeg (f_z (f_re (hf i1.toNatClampNeg) (hf i2.toNatClampNeg)) (f_un (hf i1.toNatClampNeg) (bf i1.toNatClampNeg))))))] := hD
  have hw_28 : r_28 = f_bt (f_re (hf i1.toNatClampNeg) (hf i2.toNatClampNeg)) (f_un (hf i1.toNatClampNeg) (bf i1.toNatClampNeg)) := hw_28
  subst hw_28
  have hP9 := hP.sub (ws' := [(mo, .inr (4, [.int 0, .ref m1, .ref m2, .ref m3, .ref m4, .int mn])), (m1, .inl (cI, 12, .inl (upd hf i0.toNatClampNeg (f_re (hf i1.toNatClampNeg) (hf i2.toNatClampNeg))))), (m2, .inl (cZ, 12, .inl (upd bf i0.toNatClampNeg (f_z (f_re (hf i1.toNatClampNeg) (hf i2.toNatClampNeg)) (f_un (hf i1.toNatClampNeg) (bf i1.toNatClampNeg))))))]) [0, 1, 2] rfl
  have hD9 := hD.sub (ws' := [(mo, .inr (4, [.int 0, .ref m1, .ref m2, .ref m3, .ref m4, .int mn])), (m1, .inl (cI, 12, .inl (upd hf i0.toNatClampNeg (f_re (hf i1.toNatClampNeg) (hf i2.toNatClampNeg))))), (m2, .inl (cZ, 12, .inl (upd bf i0.toNatClampNeg (f_z (f_re (hf i1.toNatClampNeg) (hf i2.toNatClampNeg)) (f_un (hf i1.toNatClampNeg) (bf i1.toNatClampNeg))))))]) [0, 1, 2] (by decide) rfl
  exact W.lret (v := f_bt (f_re (hf i1.toNatClampNeg) (hf i2.toNatClampNeg)) (f_un (hf i1.toNatClampNeg) (bf i1.toNatClampNeg))) hx hb hr (fun t ht hW => ⟨⟨f_bt (f_re (hf i1.toNatClampNeg) (hf i2.toNatClampNeg)) (f_un (hf i1.toNatClampNeg) (bf i1.toNatClampNeg)), (), rfl, (rfl), by rw [ht]; exact hP9, va_K.moved hW.alike hK, hD9⟩, hS.F ht⟩) hS.2.2 dX2_rest_31
set_option maxHeartbeats 4000000 in
set_option maxRecDepth 100000 in
theorem c_X2_rest_noP (l : Launch) (D : va_G) (cI : ClassId) (cZ : ClassId) (mo : Nat) (m1 : Nat) (m2 : Nat) (m3 : Nat) (m4 : Nat) (sz : Nat) (th : Int32) (mn : Int32) (hf : Nat → Int32) (bf : Nat → Int32) (i0 : Int32) (i1 : Int32) (i2 : Int32) (gb : ¬ vp_in i0 12 ∨ (¬ vp_in i1 12 ∨ ¬ vp_in i2 12)) : Met l yX2_rest wsX2_rest ({ frames := 2, cells := 0, slots := 0, locals := 46 }) (va_Pc [.ref mo, .int i0, .int i1, .int i2] (ny_pre D [(cI, .int), (cZ, .boolean)] [(mo, .inr (4, [.int th, .ref m1, .ref m2, .ref m3, .ref m4, .int mn])), (m1, .inl (cI, 12, .inl hf)), (m2, .inl (cZ, 12, .inl bf))] sz)) (va_Ql (fun (r : Int64) (u : Unit) => r = 0) (fun (u : Unit) t => ny_at D [(cI, .int), (cZ, .boolean)] (va_A [(mo, .inr (4, [.int th, .ref m1, .ref m2, .ref m3, .ref m4, .int mn])), (m1, .inl (cI, 12, .inl hf)), (m2, .inl (cZ, 12, .inl bf))] sz) [(mo, .inr (4, [.int 1, .ref m1, .ref m2, .ref m3, .ref m4, .int mn])), (m1, .inl (cI, 12, .inl hf)), (m2, .inl (cZ, 12, .inl bf))] t) (va_A [(mo, .inr (4, [.int th, .ref m1, .ref m2, .ref m3, .ref m4, .int mn])), (m1, .inl (cI, 12, .inl hf)), (m2, .inl (cZ, 12, .inl bf))] sz)) 0 0 (va_A [(mo, .inr (4, [.int th, .ref m1, .ref m2, .ref m3, .ref m4, .int mn])), (m1, .inl (cI, 12, .inl hf)), (m2, .inl (cZ, 12, .inl bf))] sz) := by
  refine Met.ofW (cc := cX2_rest) (maxL := 4) (ret := (some .long)) (by decide) rfl ?_
  intro p e s m args below meth c s₁ B hml hv
  obtain ⟨rfl, hsz, hP, hK, hD0, hE⟩ := hv
  have hx := B.exec
  have hb := B.bytes
  have hr := B.returns
  have hts := atoms_spec (ws := wsX2_rest) B.pre
  have hown : s.vm.findClass RX2 = some m.cls := findClass_of_methodNamed B.named
  have hlocks := B.notSynchronized
  subst hsz
  have hD := hD0.self (sz := s.heap.size)
  generalize hAe : va_A [(mo, .inr (4, [.int th, .ref m1, .ref m2, .ref m3, .ref m4, .int mn])), (m1, .inl (cI, 12, .inl hf)), (m2, .inl (cZ, 12, .inl bf))] s.heap.size = A at hD hE ⊢
  have hA : ∀ q : Nat, s.heap.size ≤ q → A q := fun q h => by rw [← hAe]; exact Or.inr h
  have hS : va_S A s.heap s.heap [] := va_S.rf
  have hl := lv_entry ([.ref mo, .int i0, .int i1, .int i2]) (n := 4) (Nat.le_of_ble_eq_true rfl)
  rw [lg_entry_eq]
  generalize (lg_sl ([.ref mo, .int i0, .int i1, .int i2]) ++ List.replicate (4 - (lg_sl ([.ref mo, .int i0, .int i1, .int i2])).length) Slot.unset).toArray = ls at hl ⊢
  have hl : lv_has ls 4 [(0, .ref mo), (1, .int i0), (2, .int i1), (3, .int i2)] := hl
  refine lv_aload_n hx hb dX2_rest_0 rfl (lv_at hl 0 rfl) ?_
  refine lv_iload_n hx hb dX2_rest_1 rfl (lv_at hl 1 rfl) ?_
  refine lv_iload_n hx hb dX2_rest_2 rfl (lv_at hl 2 rfl) ?_
  refine lv_iload_n hx hb dX2_rest_3 rfl (lv_at hl 2 rfl) ?_
  refine lv_iload_n hx hb dX2_rest_4 rfl (lv_at hl 3 rfl) ?_
  refine ny_i (wc := [(mo, .inr (4, [.int th, .ref m1, .ref m2, .ref m3, .ref m4, .int mn])), (m1, .inl (cI, 12, .inl hf))]) (wr := [(m2, .inl (cZ, 12, .inl bf))]) hP hD hS hA [0, 1] [2] rfl rfl (by decide) (by decide) (va_runV (As := [.int i0, .int i1, .int i1, .int i2]) (rest := []) ⟨hx, hb, hml, hown, hts⟩ (c_X2_isBad_noP l D cI mo m1 m2 m3 m4 s.heap.size th mn hf i0 i1 i1 i2 (by rcases gb with h | h | h <;> simp [h])) (cwV 4 hts gX2_rest_X2_isBad rfl rfl rfl (by decide +kernel) ⟨Nat.le_of_ble_eq_true rfl, Nat.le_of_ble_eq_true rfl⟩) ⟨ny_blind, va_recv hK hP (ci := 4) (q0 := 0) rfl rfl, fun U hU hW => ⟨rfl, ny_preU hE hP hK hD hS hA [0, 1] rfl (by decide) rfl [0] rfl U hU hW⟩⟩ rfl rfl hl.1 rfl (lv_room (Nat.le_of_ble_eq_true rfl)) dX2_rest_5 ⟨Nat.le_of_ble_eq_true rfl, Nat.le_of_ble_eq_true rfl⟩) (fun r_5 u H locs hw_5 hP hD hS => ?_)
  have hP : va_P D vwCl [(m2, .inl (cZ, 12, .inl bf)), (mo, .inr (4, [.int 1, .ref m1, .ref m2, .ref m3, .ref m4, .int mn])), (m1, .inl (cI, 12, .inl hf))] H := hP
  have hD : va_D A [(m2, .inl (cZ, 12, .inl bf)), (mo, .inr (4, [.int 1, .ref m1, .ref m2, .ref m3, .ref m4, .int mn])), (m1, .inl (cI, 12, .inl hf))] := hD
  have hw_5 : r_5 = 1 := hw_5
  subst hw_5
  refine lv_if_eq (tgt := 15) hx hb dX2_rest_8 (by decide) (fun c_8 => absurd c_8 (show ¬ ((1 : Int32) = 0) by  decide)) (fun c_8 => ?_)
  refine lv_lconst (v := 0) hx hb dX2_rest_11 (by decide) ?_
  refine lv_goto (tgt := 31) hx hb dX2_rest_12 (by decide) ?_
  have hP9 := hP.sub (ws' := [(mo, .inr (4, [.int 1, .ref m1, .ref m2, .ref m3, .ref m4, .int mn])), (m1, .inl (cI, 12, .inl hf)), (m2, .inl (cZ, 12, .inl bf))]) [1, 2, 0] rfl
  have hD9 := hD.sub (ws' := [(mo, .inr (4, [.int 1, .ref m1, .ref m2, .ref m3, .ref m4, .int mn])), (m1, .inl (cI, 12, .inl hf)), (m2, .inl (cZ, 12, .inl bf))]) [1, 2, 0] (by decide) rfl
  exact W.lret (v := 0) hx hb hr (fun t ht hW => ⟨⟨0, (), rfl, (rfl), by rw [ht]; exact hP9, va_K.moved hW.alike hK, hD9⟩, hS.F ht⟩) hS.2.2 dX2_rest_31
set_option maxHeartbeats 4000000 in
set_option maxRecDepth 100000 in
theorem c_X2_rest_no0 (l : Launch) (D : va_G) (cI : ClassId) (cZ : ClassId) (mo : Nat) (m1 : Nat) (m2 : Nat) (m3 : Nat) (m4 : Nat) (sz : Nat) (th : Int32) (mn : Int32) (hf : Nat → Int32) (bf : Nat → Int32) (i0 : Int32) (i1 : Int32) (i2 : Int32) (gp0 : vp_in i0 12) (gp1 : vp_in i1 12) (gp2 : vp_in i2 12) (g0 : hf i2.toNatClampNeg = 0) : Met l yX2_rest wsX2_rest ({ frames := 2, cells := 0, slots := 0, locals := 46 }) (va_Pc [.ref mo, .int i0, .int i1, .int i2] (ny_pre D [(cI, .int), (cZ, .boolean)] [(mo, .inr (4, [.int th, .ref m1, .ref m2, .ref m3, .ref m4, .int mn])), (m1, .inl (cI, 12, .inl hf)), (m2, .inl (cZ, 12, .inl bf))] sz)) (va_Ql (fun (r : Int64) (u : Unit) => r = 0) (fun (u : Unit) t => ny_at D [(cI, .int), (cZ, .boolean)] (va_A [(mo, .inr (4, [.int th, .ref m1, .ref m2, .ref m3, .ref m4, .int mn])), (m1, .inl (cI, 12, .inl hf)), (m2, .inl (cZ, 12, .inl bf))] sz) [(mo, .inr (4, [.int 2, .ref m1, .ref m2, .ref m3, .ref m4, .int mn])), (m1, .inl (cI, 12, .inl hf)), (m2, .inl (cZ, 12, .inl bf))] t) (va_A [(mo, .inr (4, [.int th, .ref m1, .ref m2, .ref m3, .ref m4, .int mn])), (m1, .inl (cI, 12, .inl hf)), (m2, .inl (cZ, 12, .inl bf))] sz)) 0 0 (va_A [(mo, .inr (4, [.int th, .ref m1, .ref m2, .ref m3, .ref m4, .int mn])), (m1, .inl (cI, 12, .inl hf)), (m2, .inl (cZ, 12, .inl bf))] sz) := by
  refine Met.ofW (cc := cX2_rest) (maxL := 4) (ret := (some .long)) (by decide) rfl ?_
  intro p e s m args below meth c s₁ B hml hv
  obtain ⟨rfl, hsz, hP, hK, hD0, hE⟩ := hv
  have hx := B.exec
  have hb := B.bytes
  have hr := B.returns
  have hts := atoms_spec (ws := wsX2_rest) B.pre
  have hown : s.vm.findClass RX2 = some m.cls := findClass_of_methodNamed B.named
  have hlocks := B.notSynchronized
  subst hsz
  have hD := hD0.self (sz := s.heap.size)
  generalize hAe : va_A [(mo, .inr (4, [.int th, .ref m1, .ref m2, .ref m3, .ref m4, .int mn])), (m1, .inl (cI, 12, .inl hf)), (m2, .inl (cZ, 12, .inl bf))] s.heap.size = A at hD hE ⊢
  have hA : ∀ q : Nat, s.heap.size ≤ q → A q := fun q h => by rw [← hAe]; exact Or.inr h
  have hS : va_S A s.heap s.heap [] := va_S.rf
  have hl := lv_entry ([.ref mo, .int i0, .int i1, .int i2]) (n := 4) (Nat.le_of_ble_eq_true rfl)
  rw [lg_entry_eq]
  generalize (lg_sl ([.ref mo, .int i0, .int i1, .int i2]) ++ List.replicate (4 - (lg_sl ([.ref mo, .int i0, .int i1, .int i2])).length) Slot.unset).toArray = ls at hl ⊢
  have hl : lv_has ls 4 [(0, .ref mo), (1, .int i0), (2, .int i1), (3, .int i2)] := hl
  refine lv_aload_n hx hb dX2_rest_0 rfl (lv_at hl 0 rfl) ?_
  refine lv_iload_n hx hb dX2_rest_1 rfl (lv_at hl 1 rfl) ?_
  refine lv_iload_n hx hb dX2_rest_2 rfl (lv_at hl 2 rfl) ?_
  refine lv_iload_n hx hb dX2_rest_3 rfl (lv_at hl 2 rfl) ?_
  refine lv_iload_n hx hb dX2_rest_4 rfl (lv_at hl 3 rfl) ?_
  refine ny_i (wc := [(mo, .inr (4, [.int th, .ref m1, .ref m2, .ref m3, .ref m4, .int mn])), (m1, .inl (cI, 12, .inl hf))]) (wr := [(m2, .inl (cZ, 12, .inl bf))]) hP hD hS hA [0, 1] [2] rfl rfl (by decide) (by decide) (va_runV (As := [.int i0, .int i1, .int i1, .int i2]) (rest := []) ⟨hx, hb, hml, hown, hts⟩ (c_X2_isBad_no0 l D cI mo m1 m2 m3 m4 s.heap.size th mn hf i0 i1 i1 i2 (by assumption) (by assumption) (by assumption) (by assumption) (by assumption)) (cwV 4 hts gX2_rest_X2_isBad rfl rfl rfl (by decide +kernel) ⟨Nat.le_of_ble_eq_true rfl, Nat.le_of_ble_eq_true rfl⟩) ⟨ny_blind, va_recv hK hP (ci := 4) (q0 := 0) rfl rfl, fun U hU hW => ⟨rfl, ny_preU hE hP hK hD hS hA [0, 1] rfl (by decide) rfl [0] rfl U hU hW⟩⟩ rfl rfl hl.1 rfl (lv_room (Nat.le_of_ble_eq_true rfl)) dX2_rest_5 ⟨Nat.le_of_ble_eq_true rfl, Nat.le_of_ble_eq_true rfl⟩) (fun r_5 u H locs hw_5 hP hD hS => ?_)
  have hP : va_P D vwCl [(m2, .inl (cZ, 12, .inl bf)), (mo, .inr (4, [.int 2, .ref m1, .ref m2, .ref m3, .ref m4, .int mn])), (m1, .inl (cI, 12, .inl hf))] H := hP
  have hD : va_D A [(m2, .inl (cZ, 12, .inl bf)), (mo, .inr (4, [.int 2, .ref m1, .ref m2, .ref m3, .ref m4, .int mn])), (m1, .inl (cI, 12, .inl hf))] := hD
  have hw_5 : r_5 = 1 := hw_5
  subst hw_5
  refine lv_if_eq (tgt := 15) hx hb dX2_rest_8 (by decide) (fun c_8 => absurd c_8 (show ¬ ((1 : Int32) = 0) by  decide)) (fun c_8 => ?_)
  refine lv_lconst (v := 0) hx hb dX2_rest_11 (by decide) ?_
  refine lv_goto (tgt := 31) hx hb dX2_rest_12 (by decide) ?_
  have hP9 := hP.sub (ws' := [(mo, .inr (4, [.int 2, .ref m1, .ref m2, .ref m3, .ref m4, .int mn])), (m1, .inl (cI, 12, .inl hf)), (m2, .inl (cZ, 12, .inl bf))]) [1, 2, 0] rfl
  have hD9 := hD.sub (ws' := [(mo, .inr (4, [.int 2, .ref m1, .ref m2, .ref m3, .ref m4, .int mn])), (m1, .inl (cI, 12, .inl hf)), (m2, .inl (cZ, 12, .inl bf))]) [1, 2, 0] (by decide) rfl
  exact W.lret (v := 0) hx hb hr (fun t ht hW => ⟨⟨0, (), rfl, (rfl), by rw [ht]; exact hP9, va_K.moved hW.alike hK, hD9⟩, hS.F ht⟩) hS.2.2 dX2_rest_31
set_option maxHeartbeats 4000000 in
set_option maxRecDepth 100000 in
theorem c_X2_restToo (l : Launch) (D : va_G) (cI : ClassId) (cZ : ClassId) (mo : Nat) (m1 : Nat) (m2 : Nat) (m3 : Nat) (m4 : Nat) (sz : Nat) (th : Int32) (mn : Int32) (hf : Nat → Int32) (bf : Nat → Int32) (i0 : Int32) (i1 : Int32) (i2 : Int32) (gp0 : vp_in i0 12) (gp1 : vp_in i1 12) (gp2 : vp_in i2 12) (g0 : ¬ hf i2.toNatClampNeg = 0) (gH : ny_H hf) (gB : ny_BB bf) : Met l yX2_restToo wsX2_restToo ({ frames := 4, cells := 0, slots := 0, locals := 93 }) (va_Pc [.ref mo, .int i0, .int i1, .int i2] (ny_pre D [(cI, .int), (cZ, .boolean)] [(mo, .inr (4, [.int th, .ref m1, .ref m2, .ref m3, .ref m4, .int mn])), (m1, .inl (cI, 12, .inl hf)), (m2, .inl (cZ, 12, .inl bf))] sz)) (va_Ql (fun (r : Int64) (u : Unit) => r = f_bt (f_re (hf i1.toNatClampNeg) (hf i2.toNatClampNeg)) (f_un (hf i1.toNatClampNeg) (bf i1.toNatClampNeg))) (fun (u : Unit) t => ny_at D [(cI, .int), (cZ, .boolean)] (va_A [(mo, .inr (4, [.int th, .ref m1, .ref m2, .ref m3, .ref m4, .int mn])), (m1, .inl (cI, 12, .inl hf)), (m2, .inl (cZ, 12, .inl bf))] sz) [(mo, .inr (4, [.int 0, .ref m1, .ref m2, .ref m3, .ref m4, .int mn])), (m1, .inl (cI, 12, .inl (upd hf i0.toNatClampNeg (f_re (hf i1.toNatClampNeg) (hf i2.toNatClampNeg))))), (m2, .inl (cZ, 12, .inl (upd bf i0.toNatClampNeg (f_z (f_re (hf i1.toNatClampNeg) (hf i2.toNatClampNeg)) (f_un (hf i1.toNatClampNeg) (bf i1.toNatClampNeg))))))] t) (va_A [(mo, .inr (4, [.int th, .ref m1, .ref m2, .ref m3, .ref m4, .int mn])), (m1, .inl (cI, 12, .inl hf)), (m2, .inl (cZ, 12, .inl bf))] sz)) 0 0 (va_A [(mo, .inr (4, [.int th, .ref m1, .ref m2, .ref m3, .ref m4, .int mn])), (m1, .inl (cI, 12, .inl hf)), (m2, .inl (cZ, 12, .inl bf))] sz) := by
  refine Met.ofW (cc := cX2_restToo) (maxL := 4) (ret := (some .long)) (by decide) rfl ?_
  intro p e s m args below meth c s₁ B hml hv
  obtain ⟨rfl, hsz, hP, hK, hD0, hE⟩ := hv
  have hx := B.exec
  have hb := B.bytes
  have hr := B.returns
  have hts := atoms_spec (ws := wsX2_restToo) B.pre
  have hown : s.vm.findClass RX2 = some m.cls := findClass_of_methodNamed B.named
  have hlocks := B.notSynchronized
  subst hsz
  have hD := hD0.self (sz := s.heap.size)
  generalize hAe : va_A [(mo, .inr (4, [.int th, .ref m1, .ref m2, .ref m3, .ref m4, .int mn])), (m1, .inl (cI, 12, .inl hf)), (m2, .inl (cZ, 12, .inl bf))] s.heap.size = A at hD hE ⊢
  have hA : ∀ q : Nat, s.heap.size ≤ q → A q := fun q h => by rw [← hAe]; exact Or.inr h
  have hS : va_S A s.heap s.heap [] := va_S.rf
  have hl := lv_entry ([.ref mo, .int i0, .int i1, .int i2]) (n := 4) (Nat.le_of_ble_eq_true rfl)
  rw [lg_entry_eq]
  generalize (lg_sl ([.ref mo, .int i0, .int i1, .int i2]) ++ List.replicate (4 - (lg_sl ([.ref mo, .int i0, .int i1, .int i2])).length) Slot.unset).toArray = ls at hl ⊢
  have hl : lv_has ls 4 [(0, .ref mo), (1, .int i0), (2, .int i1), (3, .int i2)] := hl
  refine lv_aload_n hx hb dX2_restToo_0 rfl (lv_at hl 0 rfl) ?_
  refine lv_iload_n hx hb dX2_restToo_1 rfl (lv_at hl 1 rfl) ?_
  refine lv_iload_n hx hb dX2_restToo_2 rfl (lv_at hl 2 rfl) ?_
  refine lv_iload_n hx hb dX2_restToo_3 rfl (lv_at hl 3 rfl) ?_
  refine ny_l (wc := [(mo, .inr (4, [.int th, .ref m1, .ref m2, .ref m3, .ref m4, .int mn])), (m1, .inl (cI, 12, .inl hf)), (m2, .inl (cZ, 12, .inl bf))]) (wr := []) hP hD hS hA [0, 1, 2] [] rfl rfl (by decide) (by decide) (va_runV (As := [.int i0, .int i1, .int i2]) (rest := []) ⟨hx, hb, hml, hown, hts⟩ (c_X2_rest l D cI cZ mo m1 m2 m3 m4 s.heap.size th mn hf bf i0 i1 i2 (by assumption) (by assumption) (by assumption) (by assumption) (by assumption) (by assumption)) (cwV 3 hts gX2_restToo_X2_rest rfl rfl rfl (by decide +kernel) ⟨Nat.le_of_ble_eq_true rfl, Nat.le_of_ble_eq_true rfl⟩) ⟨ny_blind, va_recv hK hP (ci := 4) (q0 := 0) rfl rfl, fun U hU hW => ⟨rfl, ny_preU hE hP hK hD hS hA [0, 1, 2] rfl (by decide) rfl [0, 1] rfl U hU hW⟩⟩ rfl rfl hl.1 rfl (lv_room (Nat.le_of_ble_eq_true rfl)) dX2_restToo_4 ⟨Nat.le_of_ble_eq_true rfl, Nat.le_of_ble_eq_true rfl⟩) (fun r_4 u H locs hw_4 hP hD hS => ?_)
  have hP : va_P D vwCl [(mo, .inr (4, [.int 0, .ref m1, .ref m2, .ref m3, .ref m4, .int mn])), (m1, .inl (cI, 12, .inl (upd hf i0.toNatClampNeg (f_re (hf i1.toNatClampNeg) (hf i2.toNatClampNeg))))), (m2, .inl (cZ, 12, .inl (upd bf i0.toNatClampNeg (f_z (f_re (hf i1.toNatClampNeg) (hf i2.toNatClampNeg)) (f_un (hf i1.toNatClampNeg) (bf i1.toNatClampNeg))))))] H := hP
  have hD : va_D A [(mo, .inr (4, [.int 0, .ref m1, .ref m2, .ref m3, .ref m4, .int mn])), (m1, .inl (cI, 12, .inl (upd hf i0.toNatClampNeg (f_re (hf i1.toNatClampNeg) (hf i2.toNatClampNeg))))), (m2, .inl (cZ, 12, .inl (upd bf i0.toNatClampNeg (f_z (f_re (hf i1.toNatClampNeg) (hf i2.toNatClampNeg)) (f_un (hf i1.toNatClampNeg) (bf i1.toNatClampNeg))))))] := hD
  have hw_4 : r_4 = f_bt (f_re (hf i1.toNatClampNeg) (hf i2.toNatClampNeg)) (f_un (hf i1.toNatClampNeg) (bf i1.toNatClampNeg)) := hw_4
  subst hw_4
  have hP9 := hP.sub (ws' := [(mo, .inr (4, [.int 0, .ref m1, .ref m2, .ref m3, .ref m4, .int mn])), (m1, .inl (cI, 12, .inl (upd hf i0.toNatClampNeg (f_re (hf i1.toNatClampNeg) (hf i2.toNatClampNeg))))), (m2, .inl (cZ, 12, .inl (upd bf i0.toNatClampNeg (f_z (f_re (hf i1.toNatClampNeg) (hf i2.toNatClampNeg)) (f_un (hf i1.toNatClampNeg) (bf i1.toNatClampNeg))))))]) [0, 1, 2] rfl
  have hD9 := hD.sub (ws' := [(mo, .inr (4, [.int 0, .ref m1, .ref m2, .ref m3, .ref m4, .int mn])), (m1, .inl (cI, 12, .inl (upd hf i0.toNatClampNeg (f_re (hf i1.toNatClampNeg) (hf i2.toNatClampNeg))))), (m2, .inl (cZ, 12, .inl (upd bf i0.toNatClampNeg (f_z (f_re (hf i1.toNatClampNeg) (hf i2.toNatClampNeg)) (f_un (hf i1.toNatClampNeg) (bf i1.toNatClampNeg))))))]) [0, 1, 2] (by decide) rfl
  exact W.lret (v := f_bt (f_re (hf i1.toNatClampNeg) (hf i2.toNatClampNeg)) (f_un (hf i1.toNatClampNeg) (bf i1.toNatClampNeg))) hx hb hr (fun t ht hW => ⟨⟨f_bt (f_re (hf i1.toNatClampNeg) (hf i2.toNatClampNeg)) (f_un (hf i1.toNatClampNeg) (bf i1.toNatClampNeg)), (), rfl, (rfl), by rw [ht]; exact hP9, va_K.moved hW.alike hK, hD9⟩, hS.F ht⟩) hS.2.2 dX2_restToo_7
set_option maxHeartbeats 4000000 in
set_option maxRecDepth 100000 in
theorem c_X2_restToo_noP (l : Launch) (D : va_G) (cI : ClassId) (cZ : ClassId) (mo : Nat) (m1 : Nat) (m2 : Nat) (m3 : Nat) (m4 : Nat) (sz : Nat) (th : Int32) (mn : Int32) (hf : Nat → Int32) (bf : Nat → Int32) (i0 : Int32) (i1 : Int32) (i2 : Int32) (gb : ¬ vp_in i0 12 ∨ (¬ vp_in i1 12 ∨ ¬ vp_in i2 12)) : Met l yX2_restToo wsX2_restToo ({ frames := 3, cells := 0, slots := 0, locals := 69 }) (va_Pc [.ref mo, .int i0, .int i1, .int i2] (ny_pre D [(cI, .int), (cZ, .boolean)] [(mo, .inr (4, [.int th, .ref m1, .ref m2, .ref m3, .ref m4, .int mn])), (m1, .inl (cI, 12, .inl hf)), (m2, .inl (cZ, 12, .inl bf))] sz)) (va_Ql (fun (r : Int64) (u : Unit) => r = 0) (fun (u : Unit) t => ny_at D [(cI, .int), (cZ, .boolean)] (va_A [(mo, .inr (4, [.int th, .ref m1, .ref m2, .ref m3, .ref m4, .int mn])), (m1, .inl (cI, 12, .inl hf)), (m2, .inl (cZ, 12, .inl bf))] sz) [(mo, .inr (4, [.int 1, .ref m1, .ref m2, .ref m3, .ref m4, .int mn])), (m1, .inl (cI, 12, .inl hf)), (m2, .inl (cZ, 12, .inl bf))] t) (va_A [(mo, .inr (4, [.int th, .ref m1, .ref m2, .ref m3, .ref m4, .int mn])), (m1, .inl (cI, 12, .inl hf)), (m2, .inl (cZ, 12, .inl bf))] sz)) 0 0 (va_A [(mo, .inr (4, [.int th, .ref m1, .ref m2, .ref m3, .ref m4, .int mn])), (m1, .inl (cI, 12, .inl hf)), (m2, .inl (cZ, 12, .inl bf))] sz) := by
  refine Met.ofW (cc := cX2_restToo) (maxL := 4) (ret := (some .long)) (by decide) rfl ?_
  intro p e s m args below meth c s₁ B hml hv
  obtain ⟨rfl, hsz, hP, hK, hD0, hE⟩ := hv
  have hx := B.exec
  have hb := B.bytes
  have hr := B.returns
  have hts := atoms_spec (ws := wsX2_restToo) B.pre
  have hown : s.vm.findClass RX2 = some m.cls := findClass_of_methodNamed B.named
  have hlocks := B.notSynchronized
  subst hsz
  have hD := hD0.self (sz := s.heap.size)
  generalize hAe : va_A [(mo, .inr (4, [.int th, .ref m1, .ref m2, .ref m3, .ref m4, .int mn])), (m1, .inl (cI, 12, .inl hf)), (m2, .inl (cZ, 12, .inl bf))] s.heap.size = A at hD hE ⊢
  have hA : ∀ q : Nat, s.heap.size ≤ q → A q := fun q h => by rw [← hAe]; exact Or.inr h
  have hS : va_S A s.heap s.heap [] := va_S.rf
  have hl := lv_entry ([.ref mo, .int i0, .int i1, .int i2]) (n := 4) (Nat.le_of_ble_eq_true rfl)
  rw [lg_entry_eq]
  generalize (lg_sl ([.ref mo, .int i0, .int i1, .int i2]) ++ List.replicate (4 - (lg_sl ([.ref mo, .int i0, .int i1, .int i2])).length) Slot.unset).toArray = ls at hl ⊢
  have hl : lv_has ls 4 [(0, .ref mo), (1, .int i0), (2, .int i1), (3, .int i2)] := hl
  refine lv_aload_n hx hb dX2_restToo_0 rfl (lv_at hl 0 rfl) ?_
  refine lv_iload_n hx hb dX2_restToo_1 rfl (lv_at hl 1 rfl) ?_
  refine lv_iload_n hx hb dX2_restToo_2 rfl (lv_at hl 2 rfl) ?_
  refine lv_iload_n hx hb dX2_restToo_3 rfl (lv_at hl 3 rfl) ?_
  refine ny_l (wc := [(mo, .inr (4, [.int th, .ref m1, .ref m2, .ref m3, .ref m4, .int mn])), (m1, .inl (cI, 12, .inl hf)), (m2, .inl (cZ, 12, .inl bf))]) (wr := []) hP hD hS hA [0, 1, 2] [] rfl rfl (by decide) (by decide) (va_runV (As := [.int i0, .int i1, .int i2]) (rest := []) ⟨hx, hb, hml, hown, hts⟩ (c_X2_rest_noP l D cI cZ mo m1 m2 m3 m4 s.heap.size th mn hf bf i0 i1 i2 (by assumption)) (cwV 3 hts gX2_restToo_X2_rest rfl rfl rfl (by decide +kernel) ⟨Nat.le_of_ble_eq_true rfl, Nat.le_of_ble_eq_true rfl⟩) ⟨ny_blind, va_recv hK hP (ci := 4) (q0 := 0) rfl rfl, fun U hU hW => ⟨rfl, ny_preU hE hP hK hD hS hA [0, 1, 2] rfl (by decide) rfl [0, 1] rfl U hU hW⟩⟩ rfl rfl hl.1 rfl (lv_room (Nat.le_of_ble_eq_true rfl)) dX2_restToo_4 ⟨Nat.le_of_ble_eq_true rfl, Nat.le_of_ble_eq_true rfl⟩) (fun r_4 u H locs hw_4 hP hD hS => ?_)
  have hP : va_P D vwCl [(mo, .inr (4, [.int 1, .ref m1, .ref m2, .ref m3, .ref m4, .int mn])), (m1, .inl (cI, 12, .inl hf)), (m2, .inl (cZ, 12, .inl bf))] H := hP
  have hD : va_D A [(mo, .inr (4, [.int 1, .ref m1, .ref m2, .ref m3, .ref m4, .int mn])), (m1, .inl (cI, 12, .inl hf)), (m2, .inl (cZ, 12, .inl bf))] := hD
  have hw_4 : r_4 = 0 := hw_4
  subst hw_4
  have hP9 := hP.sub (ws' := [(mo, .inr (4, [.int 1, .ref m1, .ref m2, .ref m3, .ref m4, .int mn])), (m1, .inl (cI, 12, .inl hf)), (m2, .inl (cZ, 12, .inl bf))]) [0, 1, 2] rfl
  have hD9 := hD.sub (ws' := [(mo, .inr (4, [.int 1, .ref m1, .ref m2, .ref m3, .ref m4, .int mn])), (m1, .inl (cI, 12, .inl hf)), (m2, .inl (cZ, 12, .inl bf))]) [0, 1, 2] (by decide) rfl
  exact W.lret (v := 0) hx hb hr (fun t ht hW => ⟨⟨0, (), rfl, (rfl), by rw [ht]; exact hP9, va_K.moved hW.alike hK, hD9⟩, hS.F ht⟩) hS.2.2 dX2_restToo_7
set_option maxHeartbeats 4000000 in
set_option maxRecDepth 100000 in
theorem c_X2_restToo_no0 (l : Launch) (D : va_G) (cI : ClassId) (cZ : ClassId) (mo : Nat) (m1 : Nat) (m2 : Nat) (m3 : Nat) (m4 : Nat) (sz : Nat) (th : Int32) (mn : Int32) (hf : Nat → Int32) (bf : Nat → Int32) (i0 : Int32) (i1 : Int32) (i2 : Int32) (gp0 : vp_in i0 12) (gp1 : vp_in i1 12) (gp2 : vp_in i2 12) (g0 : hf i2.toNatClampNeg = 0) : Met l yX2_restToo wsX2_restToo ({ frames := 3, cells := 0, slots := 0, locals := 69 }) (va_Pc [.ref mo, .int i0, .int i1, .int i2] (ny_pre D [(cI, .int), (cZ, .boolean)] [(mo, .inr (4, [.int th, .ref m1, .ref m2, .ref m3, .ref m4, .int mn])), (m1, .inl (cI, 12, .inl hf)), (m2, .inl (cZ, 12, .inl bf))] sz)) (va_Ql (fun (r : Int64) (u : Unit) => r = 0) (fun (u : Unit) t => ny_at D [(cI, .int), (cZ, .boolean)] (va_A [(mo, .inr (4, [.int th, .ref m1, .ref m2, .ref m3, .ref m4, .int mn])), (m1, .inl (cI, 12, .inl hf)), (m2, .inl (cZ, 12, .inl bf))] sz) [(mo, .inr (4, [.int 2, .ref m1, .ref m2, .ref m3, .ref m4, .int mn])), (m1, .inl (cI, 12, .inl hf)), (m2, .inl (cZ, 12, .inl bf))] t) (va_A [(mo, .inr (4, [.int th, .ref m1, .ref m2, .ref m3, .ref m4, .int mn])), (m1, .inl (cI, 12, .inl hf)), (m2, .inl (cZ, 12, .inl bf))] sz)) 0 0 (va_A [(mo, .inr (4, [.int th, .ref m1, .ref m2, .ref m3, .ref m4, .int mn])), (m1, .inl (cI, 12, .inl hf)), (m2, .inl (cZ, 12, .inl bf))] sz) := by
  refine Met.ofW (cc := cX2_restToo) (maxL := 4) (ret := (some .long)) (by decide) rfl ?_
  intro p e s m args below meth c s₁ B hml hv
  obtain ⟨rfl, hsz, hP, hK, hD0, hE⟩ := hv
  have hx := B.exec
  have hb := B.bytes
  have hr := B.returns
  have hts := atoms_spec (ws := wsX2_restToo) B.pre
  have hown : s.vm.findClass RX2 = some m.cls := findClass_of_methodNamed B.named
  have hlocks := B.notSynchronized
  subst hsz
  have hD := hD0.self (sz := s.heap.size)
  generalize hAe : va_A [(mo, .inr (4, [.int th, .ref m1, .ref m2, .ref m3, .ref m4, .int mn])), (m1, .inl (cI, 12, .inl hf)), (m2, .inl (cZ, 12, .inl bf))] s.heap.size = A at hD hE ⊢
  have hA : ∀ q : Nat, s.heap.size ≤ q → A q := fun q h => by rw [← hAe]; exact Or.inr h
  have hS : va_S A s.heap s.heap [] := va_S.rf
  have hl := lv_entry ([.ref mo, .int i0, .int i1, .int i2]) (n := 4) (Nat.le_of_ble_eq_true rfl)
  rw [lg_entry_eq]
  generalize (lg_sl ([.ref mo, .int i0, .int i1, .int i2]) ++ List.replicate (4 - (lg_sl ([.ref mo, .int i0, .int i1, .int i2])).length) Slot.unset).toArray = ls at hl ⊢
  have hl : lv_has ls 4 [(0, .ref mo), (1, .int i0), (2, .int i1), (3, .int i2)] := hl
  refine lv_aload_n hx hb dX2_restToo_0 rfl (lv_at hl 0 rfl) ?_
  refine lv_iload_n hx hb dX2_restToo_1 rfl (lv_at hl 1 rfl) ?_
  refine lv_iload_n hx hb dX2_restToo_2 rfl (lv_at hl 2 rfl) ?_
  refine lv_iload_n hx hb dX2_restToo_3 rfl (lv_at hl 3 rfl) ?_
  refine ny_l (wc := [(mo, .inr (4, [.int th, .ref m1, .ref m2, .ref m3, .ref m4, .int mn])), (m1, .inl (cI, 12, .inl hf)), (m2, .inl (cZ, 12, .inl bf))]) (wr := []) hP hD hS hA [0, 1, 2] [] rfl rfl (by decide) (by decide) (va_runV (As := [.int i0, .int i1, .int i2]) (rest := []) ⟨hx, hb, hml, hown, hts⟩ (c_X2_rest_no0 l D cI cZ mo m1 m2 m3 m4 s.heap.size th mn hf bf i0 i1 i2 (by assumption) (by assumption) (by assumption) (by assumption)) (cwV 3 hts gX2_restToo_X2_rest rfl rfl rfl (by decide +kernel) ⟨Nat.le_of_ble_eq_true rfl, Nat.le_of_ble_eq_true rfl⟩) ⟨ny_blind, va_recv hK hP (ci := 4) (q0 := 0) rfl rfl, fun U hU hW => ⟨rfl, ny_preU hE hP hK hD hS hA [0, 1, 2] rfl (by decide) rfl [0, 1] rfl U hU hW⟩⟩ rfl rfl hl.1 rfl (lv_room (Nat.le_of_ble_eq_true rfl)) dX2_restToo_4 ⟨Nat.le_of_ble_eq_true rfl, Nat.le_of_ble_eq_true rfl⟩) (fun r_4 u H locs hw_4 hP hD hS => ?_)
  have hP : va_P D vwCl [(mo, .inr (4, [.int 2, .ref m1, .ref m2, .ref m3, .ref m4, .int mn])), (m1, .inl (cI, 12, .inl hf)), (m2, .inl (cZ, 12, .inl bf))] H := hP
  have hD : va_D A [(mo, .inr (4, [.int 2, .ref m1, .ref m2, .ref m3, .ref m4, .int mn])), (m1, .inl (cI, 12, .inl hf)), (m2, .inl (cZ, 12, .inl bf))] := hD
  have hw_4 : r_4 = 0 := hw_4
  subst hw_4
  have hP9 := hP.sub (ws' := [(mo, .inr (4, [.int 2, .ref m1, .ref m2, .ref m3, .ref m4, .int mn])), (m1, .inl (cI, 12, .inl hf)), (m2, .inl (cZ, 12, .inl bf))]) [0, 1, 2] rfl
  have hD9 := hD.sub (ws' := [(mo, .inr (4, [.int 2, .ref m1, .ref m2, .ref m3, .ref m4, .int mn])), (m1, .inl (cI, 12, .inl hf)), (m2, .inl (cZ, 12, .inl bf))]) [0, 1, 2] (by decide) rfl
  exact W.lret (v := 0) hx hb hr (fun t ht hW => ⟨⟨0, (), rfl, (rfl), by rw [ht]; exact hP9, va_K.moved hW.alike hK, hD9⟩, hS.F ht⟩) hS.2.2 dX2_restToo_7
theorem in_X2_times_X2 : ∀ w ∈ wsX20, w ∈ wsX2_times := (fun _ h => List.mem_cons_of_mem _ (List.mem_append_left _ (List.mem_append_right _ h)))
set_option maxHeartbeats 4000000 in
set_option maxRecDepth 100000 in
theorem c_X2_times (l : Launch) (D : va_G) (cI : ClassId) (mo : Nat) (m1 : Nat) (m2 : Nat) (m3 : Nat) (m4 : Nat) (sz : Nat) (th : Int32) (mn : Int32) (hf : Nat → Int32) (i0 : Int32) (i1 : Int32) (gp0 : vp_in i0 12) (gp1 : vp_in i1 12) (g0 : ¬ hf i1.toNatClampNeg = 0) (gH : ny_H hf) : Met l yX2_times wsX2_times ({ frames := 2, cells := 0, slots := 0, locals := 46 }) (va_Pc [.ref mo, .int i0, .int i1] (ny_pre D [(cI, .int)] [(mo, .inr (4, [.int th, .ref m1, .ref m2, .ref m3, .ref m4, .int mn])), (m1, .inl (cI, 12, .inl hf))] sz)) (va_Qi (fun (r : Int32) (u : Unit) => r = f_nr (hf i0.toNatClampNeg) (hf i1.toNatClampNeg)) (fun (u : Unit) t => ny_at D [(cI, .int)] (va_A [(mo, .inr (4, [.int th, .ref m1, .ref m2, .ref m3, .ref m4, .int mn])), (m1, .inl (cI, 12, .inl hf))] sz) [(mo, .inr (4, [.int 0, .ref m1, .ref m2, .ref m3, .ref m4, .int mn])), (m1, .inl (cI, 12, .inl hf))] t) (va_A [(mo, .inr (4, [.int th, .ref m1, .ref m2, .ref m3, .ref m4, .int mn])), (m1, .inl (cI, 12, .inl hf))] sz)) 0 0 (va_A [(mo, .inr (4, [.int th, .ref m1, .ref m2, .ref m3, .ref m4, .int mn])), (m1, .inl (cI, 12, .inl hf))] sz) := by
  refine Met.ofW (cc := cX2_times) (maxL := 3) (ret := (some .int)) (by decide) rfl ?_
  intro p e s m args below meth c s₁ B hml hv
  obtain ⟨rfl, hsz, hP, hK, hD0, hE⟩ := hv
  have hx := B.exec
  have hb := B.bytes
  have hr := B.returns
  have hts := atoms_spec (ws := wsX2_times) B.pre
  have hown : s.vm.findClass RX2 = some m.cls := findClass_of_methodNamed B.named
  have hlocks := B.notSynchronized
  subst hsz
  have hD := hD0.self (sz := s.heap.size)
  generalize hAe : va_A [(mo, .inr (4, [.int th, .ref m1, .ref m2, .ref m3, .ref m4, .int mn])), (m1, .inl (cI, 12, .inl hf))] s.heap.size = A at hD hE ⊢
  have hA : ∀ q : Nat, s.heap.size ≤ q → A q := fun q h => by rw [← hAe]; exact Or.inr h
  have hS : va_S A s.heap s.heap [] := va_S.rf
  have hl := lv_entry ([.ref mo, .int i0, .int i1]) (n := 3) (Nat.le_of_ble_eq_true rfl)
  rw [lg_entry_eq]
  generalize (lg_sl ([.ref mo, .int i0, .int i1]) ++ List.replicate (3 - (lg_sl ([.ref mo, .int i0, .int i1])).length) Slot.unset).toArray = ls at hl ⊢
  have hl : lv_has ls 3 [(0, .ref mo), (1, .int i0), (2, .int i1)] := hl
  refine lv_aload_n hx hb dX2_times_0 rfl (lv_at hl 0 rfl) ?_
  refine lv_iload_n hx hb dX2_times_1 rfl (lv_at hl 1 rfl) ?_
  refine lv_iload_n hx hb dX2_times_2 rfl (lv_at hl 1 rfl) ?_
  refine lv_iload_n hx hb dX2_times_3 rfl (lv_at hl 1 rfl) ?_
  refine lv_iload_n hx hb dX2_times_4 rfl (lv_at hl 2 rfl) ?_
  refine ny_i (wc := [(mo, .inr (4, [.int th, .ref m1, .ref m2, .ref m3, .ref m4, .int mn])), (m1, .inl (cI, 12, .inl hf))]) (wr := []) hP hD hS hA [0, 1] [] rfl rfl (by decide) (by decide) (va_runV (As := [.int i0, .int i0, .int i0, .int i1]) (rest := []) ⟨hx, hb, hml, hown, hts⟩ (c_X2_isBad l D cI mo m1 m2 m3 m4 s.heap.size th mn hf i0 i0 i0 i1 (by assumption) (by assumption) (by assumption) (by assumption) (by assumption)) (cwV 4 hts gX2_times_X2_isBad rfl rfl rfl (by decide +kernel) ⟨Nat.le_of_ble_eq_true rfl, Nat.le_of_ble_eq_true rfl⟩) ⟨ny_blind, va_recv hK hP (ci := 4) (q0 := 0) rfl rfl, fun U hU hW => ⟨rfl, ny_preU hE hP hK hD hS hA [0, 1] rfl (by decide) rfl [0] rfl U hU hW⟩⟩ rfl rfl hl.1 rfl (lv_room (Nat.le_of_ble_eq_true rfl)) dX2_times_5 ⟨Nat.le_of_ble_eq_true rfl, Nat.le_of_ble_eq_true rfl⟩) (fun r_5 u H locs hw_5 hP hD hS => ?_)
  have hP : va_P D vwCl [(mo, .inr (4, [.int 0, .ref m1, .ref m2, .ref m3, .ref m4, .int mn])), (m1, .inl (cI, 12, .inl hf))] H := hP
  have hD : va_D A [(mo, .inr (4, [.int 0, .ref m1, .ref m2, .ref m3, .ref m4, .int mn])), (m1, .inl (cI, 12, .inl hf))] := hD
  have hw_5 : r_5 = 0 := hw_5
  subst hw_5
  refine lv_if_eq (tgt := 15) hx hb dX2_times_8 (by decide) (fun c_8 => ?_) (fun c_8 => absurd (show (0 : Int32) = 0 by  decide) c_8)
  refine lv_aload_n hx hb dX2_times_15 rfl (lv_at hl 0 rfl) ?_
  refine va_get (D := D) (ci := 4) (v := .ref m1) (C := RX2) (T := TX2) (N := 6) hx hb hts in_X2_times_X2 hown hK hP 0 rfl rfl 1 (by decide) (hts (.fieldLink RX2 7 "NearestclockModel" "eighths" "[I") (List.mem_of_getElem? (i := 1) rfl)) (fun _ h9 => h9) rfl dX2_times_16 ?_
  refine lv_iload_n hx hb dX2_times_19 rfl (lv_at hl 1 rfl) ?_
  refine va_iald hx hb hK hP 1 0 rfl rfl (by assumption) dX2_times_20 ?_
  refine lv_aload_n hx hb dX2_times_21 rfl (lv_at hl 0 rfl) ?_
  refine va_get (D := D) (ci := 4) (v := .ref m1) (C := RX2) (T := TX2) (N := 6) hx hb hts in_X2_times_X2 hown hK hP 0 rfl rfl 1 (by decide) (hts (.fieldLink RX2 7 "NearestclockModel" "eighths" "[I") (List.mem_of_getElem? (i := 1) rfl)) (fun _ h9 => h9) rfl dX2_times_22 ?_
  refine lv_iload_n hx hb dX2_times_25 rfl (lv_at hl 2 rfl) ?_
  refine va_iald hx hb hK hP 1 0 rfl rfl (by assumption) dX2_times_26 ?_
  refine vp_callSi (va_Run.run (va_runS (As := [.int (hf i0.toNatClampNeg), .int (hf i1.toNatClampNeg)]) (rest := []) ⟨hx, hb, hml, hown, hts⟩ (c_X2_nearest l (hf i0.toNatClampNeg) (hf i1.toNatClampNeg) (gH _ (n_ix gp0)) (gH _ (n_ix gp1)) (by assumption)) (va_cwS 2 hts gX2_times_X2_nearest rfl rfl rfl (by decide +kernel) ⟨Nat.le_of_ble_eq_true rfl, Nat.le_of_ble_eq_true rfl⟩) ⟨ny_blindT, fun U hU hW => ⟨rfl, trivial⟩⟩ rfl rfl hl.1 rfl (lv_room (Nat.le_of_ble_eq_true rfl)) dX2_times_27 ⟨Nat.le_of_ble_eq_true rfl, Nat.le_of_ble_eq_true rfl⟩)) (fun r_27 hw_27 => ?_)
  have hw_27 : r_27 = f_nr (hf i0.toNatClampNeg) (hf i1.toNatClampNeg) := hw_27
  subst hw_27
  have hP9 := hP.sub (ws' := [(mo, .inr (4, [.int 0, .ref m1, .ref m2, .ref m3, .ref m4, .int mn])), (m1, .inl (cI, 12, .inl hf))]) [0, 1] rfl
  have hD9 := hD.sub (ws' := [(mo, .inr (4, [.int 0, .ref m1, .ref m2, .ref m3, .ref m4, .int mn])), (m1, .inl (cI, 12, .inl hf))]) [0, 1] (by decide) rfl
  exact W.iret (v := f_nr (hf i0.toNatClampNeg) (hf i1.toNatClampNeg)) hx hb hr (fun t ht hW => ⟨⟨f_nr (hf i0.toNatClampNeg) (hf i1.toNatClampNeg), (), rfl, (rfl), by rw [ht]; exact hP9, va_K.moved hW.alike hK, hD9⟩, hS.F ht⟩) hS.2.2 dX2_times_30
set_option maxHeartbeats 4000000 in
set_option maxRecDepth 100000 in
theorem c_X2_times_noP (l : Launch) (D : va_G) (cI : ClassId) (mo : Nat) (m1 : Nat) (m2 : Nat) (m3 : Nat) (m4 : Nat) (sz : Nat) (th : Int32) (mn : Int32) (hf : Nat → Int32) (i0 : Int32) (i1 : Int32) (gb : ¬ vp_in i0 12 ∨ ¬ vp_in i1 12) : Met l yX2_times wsX2_times ({ frames := 2, cells := 0, slots := 0, locals := 46 }) (va_Pc [.ref mo, .int i0, .int i1] (ny_pre D [(cI, .int)] [(mo, .inr (4, [.int th, .ref m1, .ref m2, .ref m3, .ref m4, .int mn])), (m1, .inl (cI, 12, .inl hf))] sz)) (va_Qi (fun (r : Int32) (u : Unit) => r = 0) (fun (u : Unit) t => ny_at D [(cI, .int)] (va_A [(mo, .inr (4, [.int th, .ref m1, .ref m2, .ref m3, .ref m4, .int mn])), (m1, .inl (cI, 12, .inl hf))] sz) [(mo, .inr (4, [.int 1, .ref m1, .ref m2, .ref m3, .ref m4, .int mn])), (m1, .inl (cI, 12, .inl hf))] t) (va_A [(mo, .inr (4, [.int th, .ref m1, .ref m2, .ref m3, .ref m4, .int mn])), (m1, .inl (cI, 12, .inl hf))] sz)) 0 0 (va_A [(mo, .inr (4, [.int th, .ref m1, .ref m2, .ref m3, .ref m4, .int mn])), (m1, .inl (cI, 12, .inl hf))] sz) := by
  refine Met.ofW (cc := cX2_times) (maxL := 3) (ret := (some .int)) (by decide) rfl ?_
  intro p e s m args below meth c s₁ B hml hv
  obtain ⟨rfl, hsz, hP, hK, hD0, hE⟩ := hv
  have hx := B.exec
  have hb := B.bytes
  have hr := B.returns
  have hts := atoms_spec (ws := wsX2_times) B.pre
  have hown : s.vm.findClass RX2 = some m.cls := findClass_of_methodNamed B.named
  have hlocks := B.notSynchronized
  subst hsz
  have hD := hD0.self (sz := s.heap.size)
  generalize hAe : va_A [(mo, .inr (4, [.int th, .ref m1, .ref m2, .ref m3, .ref m4, .int mn])), (m1, .inl (cI, 12, .inl hf))] s.heap.size = A at hD hE ⊢
  have hA : ∀ q : Nat, s.heap.size ≤ q → A q := fun q h => by rw [← hAe]; exact Or.inr h
  have hS : va_S A s.heap s.heap [] := va_S.rf
  have hl := lv_entry ([.ref mo, .int i0, .int i1]) (n := 3) (Nat.le_of_ble_eq_true rfl)
  rw [lg_entry_eq]
  generalize (lg_sl ([.ref mo, .int i0, .int i1]) ++ List.replicate (3 - (lg_sl ([.ref mo, .int i0, .int i1])).length) Slot.unset).toArray = ls at hl ⊢
  have hl : lv_has ls 3 [(0, .ref mo), (1, .int i0), (2, .int i1)] := hl
  refine lv_aload_n hx hb dX2_times_0 rfl (lv_at hl 0 rfl) ?_
  refine lv_iload_n hx hb dX2_times_1 rfl (lv_at hl 1 rfl) ?_
  refine lv_iload_n hx hb dX2_times_2 rfl (lv_at hl 1 rfl) ?_
  refine lv_iload_n hx hb dX2_times_3 rfl (lv_at hl 1 rfl) ?_
  refine lv_iload_n hx hb dX2_times_4 rfl (lv_at hl 2 rfl) ?_
  refine ny_i (wc := [(mo, .inr (4, [.int th, .ref m1, .ref m2, .ref m3, .ref m4, .int mn])), (m1, .inl (cI, 12, .inl hf))]) (wr := []) hP hD hS hA [0, 1] [] rfl rfl (by decide) (by decide) (va_runV (As := [.int i0, .int i0, .int i0, .int i1]) (rest := []) ⟨hx, hb, hml, hown, hts⟩ (c_X2_isBad_noP l D cI mo m1 m2 m3 m4 s.heap.size th mn hf i0 i0 i0 i1 (by rcases gb with h | h <;> simp [h])) (cwV 4 hts gX2_times_X2_isBad rfl rfl rfl (by decide +kernel) ⟨Nat.le_of_ble_eq_true rfl, Nat.le_of_ble_eq_true rfl⟩) ⟨ny_blind, va_recv hK hP (ci := 4) (q0 := 0) rfl rfl, fun U hU hW => ⟨rfl, ny_preU hE hP hK hD hS hA [0, 1] rfl (by decide) rfl [0] rfl U hU hW⟩⟩ rfl rfl hl.1 rfl (lv_room (Nat.le_of_ble_eq_true rfl)) dX2_times_5 ⟨Nat.le_of_ble_eq_true rfl, Nat.le_of_ble_eq_true rfl⟩) (fun r_5 u H locs hw_5 hP hD hS => ?_)
  have hP : va_P D vwCl [(mo, .inr (4, [.int 1, .ref m1, .ref m2, .ref m3, .ref m4, .int mn])), (m1, .inl (cI, 12, .inl hf))] H := hP
  have hD : va_D A [(mo, .inr (4, [.int 1, .ref m1, .ref m2, .ref m3, .ref m4, .int mn])), (m1, .inl (cI, 12, .inl hf))] := hD
  have hw_5 : r_5 = 1 := hw_5
  subst hw_5
  refine lv_if_eq (tgt := 15) hx hb dX2_times_8 (by decide) (fun c_8 => absurd c_8 (show ¬ ((1 : Int32) = 0) by  decide)) (fun c_8 => ?_)
  refine lv_iconst (v := 0) hx hb dX2_times_11 (by decide) ?_
  refine lv_goto (tgt := 30) hx hb dX2_times_12 (by decide) ?_
  have hP9 := hP.sub (ws' := [(mo, .inr (4, [.int 1, .ref m1, .ref m2, .ref m3, .ref m4, .int mn])), (m1, .inl (cI, 12, .inl hf))]) [0, 1] rfl
  have hD9 := hD.sub (ws' := [(mo, .inr (4, [.int 1, .ref m1, .ref m2, .ref m3, .ref m4, .int mn])), (m1, .inl (cI, 12, .inl hf))]) [0, 1] (by decide) rfl
  exact W.iret (v := 0) hx hb hr (fun t ht hW => ⟨⟨0, (), rfl, (rfl), by rw [ht]; exact hP9, va_K.moved hW.alike hK, hD9⟩, hS.F ht⟩) hS.2.2 dX2_times_30
set_option maxHeartbeats 4000000 in
set_option maxRecDepth 100000 in
theorem c_X2_times_no0 (l : Launch) (D : va_G) (cI : ClassId) (mo : Nat) (m1 : Nat) (m2 : Nat) (m3 : Nat) (m4 : Nat) (sz : Nat) (th : Int32) (mn : Int32) (hf : Nat → Int32) (i0 : Int32) (i1 : Int32) (gp0 : vp_in i0 12) (gp1 : vp_in i1 12) (g0 : hf i1.toNatClampNeg = 0) : Met l yX2_times wsX2_times ({ frames := 2, cells := 0, slots := 0, locals := 46 }) (va_Pc [.ref mo, .int i0, .int i1] (ny_pre D [(cI, .int)] [(mo, .inr (4, [.int th, .ref m1, .ref m2, .ref m3, .ref m4, .int mn])), (m1, .inl (cI, 12, .inl hf))] sz)) (va_Qi (fun (r : Int32) (u : Unit) => r = 0) (fun (u : Unit) t => ny_at D [(cI, .int)] (va_A [(mo, .inr (4, [.int th, .ref m1, .ref m2, .ref m3, .ref m4, .int mn])), (m1, .inl (cI, 12, .inl hf))] sz) [(mo, .inr (4, [.int 2, .ref m1, .ref m2, .ref m3, .ref m4, .int mn])), (m1, .inl (cI, 12, .inl hf))] t) (va_A [(mo, .inr (4, [.int th, .ref m1, .ref m2, .ref m3, .ref m4, .int mn])), (m1, .inl (cI, 12, .inl hf))] sz)) 0 0 (va_A [(mo, .inr (4, [.int th, .ref m1, .ref m2, .ref m3, .ref m4, .int mn])), (m1, .inl (cI, 12, .inl hf))] sz) := by
  refine Met.ofW (cc := cX2_times) (maxL := 3) (ret := (some .int)) (by decide) rfl ?_
  intro p e s m args below meth c s₁ B hml hv
  obtain ⟨rfl, hsz, hP, hK, hD0, hE⟩ := hv
  have hx := B.exec
  have hb := B.bytes
  have hr := B.returns
  have hts := atoms_spec (ws := wsX2_times) B.pre
  have hown : s.vm.findClass RX2 = some m.cls := findClass_of_methodNamed B.named
  have hlocks := B.notSynchronized
  subst hsz
  have hD := hD0.self (sz := s.heap.size)
  generalize hAe : va_A [(mo, .inr (4, [.int th, .ref m1, .ref m2, .ref m3, .ref m4, .int mn])), (m1, .inl (cI, 12, .inl hf))] s.heap.size = A at hD hE ⊢
  have hA : ∀ q : Nat, s.heap.size ≤ q → A q := fun q h => by rw [← hAe]; exact Or.inr h
  have hS : va_S A s.heap s.heap [] := va_S.rf
  have hl := lv_entry ([.ref mo, .int i0, .int i1]) (n := 3) (Nat.le_of_ble_eq_true rfl)
  rw [lg_entry_eq]
  generalize (lg_sl ([.ref mo, .int i0, .int i1]) ++ List.replicate (3 - (lg_sl ([.ref mo, .int i0, .int i1])).length) Slot.unset).toArray = ls at hl ⊢
  have hl : lv_has ls 3 [(0, .ref mo), (1, .int i0), (2, .int i1)] := hl
  refine lv_aload_n hx hb dX2_times_0 rfl (lv_at hl 0 rfl) ?_
  refine lv_iload_n hx hb dX2_times_1 rfl (lv_at hl 1 rfl) ?_
  refine lv_iload_n hx hb dX2_times_2 rfl (lv_at hl 1 rfl) ?_
  refine lv_iload_n hx hb dX2_times_3 rfl (lv_at hl 1 rfl) ?_
  refine lv_iload_n hx hb dX2_times_4 rfl (lv_at hl 2 rfl) ?_
  refine ny_i (wc := [(mo, .inr (4, [.int th, .ref m1, .ref m2, .ref m3, .ref m4, .int mn])), (m1, .inl (cI, 12, .inl hf))]) (wr := []) hP hD hS hA [0, 1] [] rfl rfl (by decide) (by decide) (va_runV (As := [.int i0, .int i0, .int i0, .int i1]) (rest := []) ⟨hx, hb, hml, hown, hts⟩ (c_X2_isBad_no0 l D cI mo m1 m2 m3 m4 s.heap.size th mn hf i0 i0 i0 i1 (by assumption) (by assumption) (by assumption) (by assumption) (by assumption)) (cwV 4 hts gX2_times_X2_isBad rfl rfl rfl (by decide +kernel) ⟨Nat.le_of_ble_eq_true rfl, Nat.le_of_ble_eq_true rfl⟩) ⟨ny_blind, va_recv hK hP (ci := 4) (q0 := 0) rfl rfl, fun U hU hW => ⟨rfl, ny_preU hE hP hK hD hS hA [0, 1] rfl (by decide) rfl [0] rfl U hU hW⟩⟩ rfl rfl hl.1 rfl (lv_room (Nat.le_of_ble_eq_true rfl)) dX2_times_5 ⟨Nat.le_of_ble_eq_true rfl, Nat.le_of_ble_eq_true rfl⟩) (fun r_5 u H locs hw_5 hP hD hS => ?_)
  have hP : va_P D vwCl [(mo, .inr (4, [.int 2, .ref m1, .ref m2, .ref m3, .ref m4, .int mn])), (m1, .inl (cI, 12, .inl hf))] H := hP
  have hD : va_D A [(mo, .inr (4, [.int 2, .ref m1, .ref m2, .ref m3, .ref m4, .int mn])), (m1, .inl (cI, 12, .inl hf))] := hD
  have hw_5 : r_5 = 1 := hw_5
  subst hw_5
  refine lv_if_eq (tgt := 15) hx hb dX2_times_8 (by decide) (fun c_8 => absurd c_8 (show ¬ ((1 : Int32) = 0) by  decide)) (fun c_8 => ?_)
  refine lv_iconst (v := 0) hx hb dX2_times_11 (by decide) ?_
  refine lv_goto (tgt := 30) hx hb dX2_times_12 (by decide) ?_
  have hP9 := hP.sub (ws' := [(mo, .inr (4, [.int 2, .ref m1, .ref m2, .ref m3, .ref m4, .int mn])), (m1, .inl (cI, 12, .inl hf))]) [0, 1] rfl
  have hD9 := hD.sub (ws' := [(mo, .inr (4, [.int 2, .ref m1, .ref m2, .ref m3, .ref m4, .int mn])), (m1, .inl (cI, 12, .inl hf))]) [0, 1] (by decide) rfl
  exact W.iret (v := 0) hx hb hr (fun t ht hW => ⟨⟨0, (), rfl, (rfl), by rw [ht]; exact hP9, va_K.moved hW.alike hK, hD9⟩, hS.F ht⟩) hS.2.2 dX2_times_30
theorem in_X2_isHalf_X2 : ∀ w ∈ wsX20, w ∈ wsX2_isHalf := (fun _ h => List.mem_cons_of_mem _ (List.mem_append_left _ (List.mem_append_right _ h)))
set_option maxHeartbeats 4000000 in
set_option maxRecDepth 100000 in
theorem c_X2_isHalf (l : Launch) (D : va_G) (cI : ClassId) (mo : Nat) (m1 : Nat) (m2 : Nat) (m3 : Nat) (m4 : Nat) (sz : Nat) (th : Int32) (mn : Int32) (hf : Nat → Int32) (i0 : Int32) (i1 : Int32) (gp0 : vp_in i0 12) (gp1 : vp_in i1 12) (g0 : ¬ hf i1.toNatClampNeg = 0) (gH : ny_H hf) : Met l yX2_isHalf wsX2_isHalf ({ frames := 3, cells := 0, slots := 0, locals := 67 }) (va_Pc [.ref mo, .int i0, .int i1] (ny_pre D [(cI, .int)] [(mo, .inr (4, [.int th, .ref m1, .ref m2, .ref m3, .ref m4, .int mn])), (m1, .inl (cI, 12, .inl hf))] sz)) (va_Qi (fun (r : Int32) (u : Unit) => r = if 2 * ny_ab (f_re (hf i0.toNatClampNeg) (hf i1.toNatClampNeg)) = ny_ab (hf i1.toNatClampNeg) then 1 else 0) (fun (u : Unit) t => ny_at D [(cI, .int)] (va_A [(mo, .inr (4, [.int th, .ref m1, .ref m2, .ref m3, .ref m4, .int mn])), (m1, .inl (cI, 12, .inl hf))] sz) [(mo, .inr (4, [.int 0, .ref m1, .ref m2, .ref m3, .ref m4, .int mn])), (m1, .inl (cI, 12, .inl hf))] t) (va_A [(mo, .inr (4, [.int th, .ref m1, .ref m2, .ref m3, .ref m4, .int mn])), (m1, .inl (cI, 12, .inl hf))] sz)) 0 0 (va_A [(mo, .inr (4, [.int th, .ref m1, .ref m2, .ref m3, .ref m4, .int mn])), (m1, .inl (cI, 12, .inl hf))] sz) := by
  refine Met.ofW (cc := cX2_isHalf) (maxL := 3) (ret := (some .boolean)) (by decide) rfl ?_
  intro p e s m args below meth c s₁ B hml hv
  obtain ⟨rfl, hsz, hP, hK, hD0, hE⟩ := hv
  have hx := B.exec
  have hb := B.bytes
  have hr := B.returns
  have hts := atoms_spec (ws := wsX2_isHalf) B.pre
  have hown : s.vm.findClass RX2 = some m.cls := findClass_of_methodNamed B.named
  have hlocks := B.notSynchronized
  subst hsz
  have hD := hD0.self (sz := s.heap.size)
  generalize hAe : va_A [(mo, .inr (4, [.int th, .ref m1, .ref m2, .ref m3, .ref m4, .int mn])), (m1, .inl (cI, 12, .inl hf))] s.heap.size = A at hD hE ⊢
  have hA : ∀ q : Nat, s.heap.size ≤ q → A q := fun q h => by rw [← hAe]; exact Or.inr h
  have hS : va_S A s.heap s.heap [] := va_S.rf
  have hl := lv_entry ([.ref mo, .int i0, .int i1]) (n := 3) (Nat.le_of_ble_eq_true rfl)
  rw [lg_entry_eq]
  generalize (lg_sl ([.ref mo, .int i0, .int i1]) ++ List.replicate (3 - (lg_sl ([.ref mo, .int i0, .int i1])).length) Slot.unset).toArray = ls at hl ⊢
  have hl : lv_has ls 3 [(0, .ref mo), (1, .int i0), (2, .int i1)] := hl
  refine lv_aload_n hx hb dX2_isHalf_0 rfl (lv_at hl 0 rfl) ?_
  refine lv_iload_n hx hb dX2_isHalf_1 rfl (lv_at hl 1 rfl) ?_
  refine lv_iload_n hx hb dX2_isHalf_2 rfl (lv_at hl 1 rfl) ?_
  refine lv_iload_n hx hb dX2_isHalf_3 rfl (lv_at hl 1 rfl) ?_
  refine lv_iload_n hx hb dX2_isHalf_4 rfl (lv_at hl 2 rfl) ?_
  refine ny_i (wc := [(mo, .inr (4, [.int th, .ref m1, .ref m2, .ref m3, .ref m4, .int mn])), (m1, .inl (cI, 12, .inl hf))]) (wr := []) hP hD hS hA [0, 1] [] rfl rfl (by decide) (by decide) (va_runV (As := [.int i0, .int i0, .int i0, .int i1]) (rest := []) ⟨hx, hb, hml, hown, hts⟩ (c_X2_isBad l D cI mo m1 m2 m3 m4 s.heap.size th mn hf i0 i0 i0 i1 (by assumption) (by assumption) (by assumption) (by assumption) (by assumption)) (cwV 4 hts gX2_isHalf_X2_isBad rfl rfl rfl (by decide +kernel) ⟨Nat.le_of_ble_eq_true rfl, Nat.le_of_ble_eq_true rfl⟩) ⟨ny_blind, va_recv hK hP (ci := 4) (q0 := 0) rfl rfl, fun U hU hW => ⟨rfl, ny_preU hE hP hK hD hS hA [0, 1] rfl (by decide) rfl [0] rfl U hU hW⟩⟩ rfl rfl hl.1 rfl (lv_room (Nat.le_of_ble_eq_true rfl)) dX2_isHalf_5 ⟨Nat.le_of_ble_eq_true rfl, Nat.le_of_ble_eq_true rfl⟩) (fun r_5 u H locs hw_5 hP hD hS => ?_)
  have hP : va_P D vwCl [(mo, .inr (4, [.int 0, .ref m1, .ref m2, .ref m3, .ref m4, .int mn])), (m1, .inl (cI, 12, .inl hf))] H := hP
  have hD : va_D A [(mo, .inr (4, [.int 0, .ref m1, .ref m2, .ref m3, .ref m4, .int mn])), (m1, .inl (cI, 12, .inl hf))] := hD
  have hw_5 : r_5 = 0 := hw_5
  subst hw_5
  refine lv_if_ne (tgt := 38) hx hb dX2_isHalf_8 (by decide) (fun c_8 => absurd (show (0 : Int32) = 0 by  decide) c_8) (fun c_8 => ?_)
  refine lv_iconst (v := 2) hx hb dX2_isHalf_11 (by decide) ?_
  refine lv_aload_n hx hb dX2_isHalf_12 rfl (lv_at hl 0 rfl) ?_
  refine lv_iload_n hx hb dX2_isHalf_13 rfl (lv_at hl 1 rfl) ?_
  refine lv_iload_n hx hb dX2_isHalf_14 rfl (lv_at hl 2 rfl) ?_
  refine vp_callSi (va_Run.run (va_runV (As := [.int i0, .int i1]) (rest := [.int 2]) ⟨hx, hb, hml, hown, hts⟩ (c_X2_left l D cI mo m1 m2 m3 m4 H.size 0 mn hf i0 i1 (by assumption) (by assumption) (by assumption) (by assumption)) (cwV 2 hts gX2_isHalf_X2_left rfl rfl rfl (by decide +kernel) ⟨Nat.le_of_ble_eq_true rfl, Nat.le_of_ble_eq_true rfl⟩) ⟨ny_blind, va_recv hK hP (ci := 4) (q0 := 0) rfl rfl, fun U hU hW => ⟨rfl, ny_preU hE hP hK hD hS hA [0, 1] rfl (by decide) rfl [0] rfl U hU hW⟩⟩ rfl rfl hl.1 rfl (lv_room (Nat.le_of_ble_eq_true rfl)) dX2_isHalf_15 ⟨Nat.le_of_ble_eq_true rfl, Nat.le_of_ble_eq_true rfl⟩)) (fun r_15 hw_15 => ?_)
  have hw_15 : r_15 = f_re (hf i0.toNatClampNeg) (hf i1.toNatClampNeg) := hw_15
  subst hw_15
  refine vp_callSi (va_Run.run (va_runS (As := [.int (f_re (hf i0.toNatClampNeg) (hf i1.toNatClampNeg))]) (rest := [.int 2]) ⟨hx, hb, hml, hown, hts⟩ (c_X2_size l (f_re (hf i0.toNatClampNeg) (hf i1.toNatClampNeg))) (va_cwS 1 hts gX2_isHalf_X2_size rfl rfl rfl (by decide +kernel) ⟨Nat.le_of_ble_eq_true rfl, Nat.le_of_ble_eq_true rfl⟩) ⟨ny_blindT, fun U hU hW => ⟨rfl, trivial⟩⟩ rfl rfl hl.1 rfl (lv_room (Nat.le_of_ble_eq_true rfl)) dX2_isHalf_18 ⟨Nat.le_of_ble_eq_true rfl, Nat.le_of_ble_eq_true rfl⟩)) (fun r_18 hw_18 => ?_)
  have hw_18 : r_18 = ny_ab (f_re (hf i0.toNatClampNeg) (hf i1.toNatClampNeg)) := hw_18
  subst hw_18
  refine lv_imul hx hb dX2_isHalf_21 ?_
  refine lv_aload_n hx hb dX2_isHalf_22 rfl (lv_at hl 0 rfl) ?_
  refine va_get (D := D) (ci := 4) (v := .ref m1) (C := RX2) (T := TX2) (N := 6) hx hb hts in_X2_isHalf_X2 hown hK hP 0 rfl rfl 1 (by decide) (hts (.fieldLink RX2 7 "NearestclockModel" "eighths" "[I") (List.mem_of_getElem? (i := 1) rfl)) (fun _ h9 => h9) rfl dX2_isHalf_23 ?_
  refine lv_iload_n hx hb dX2_isHalf_26 rfl (lv_at hl 2 rfl) ?_
  refine va_iald hx hb hK hP 1 0 rfl rfl (by assumption) dX2_isHalf_27 ?_
  refine vp_callSi (va_Run.run (va_runS (As := [.int (hf i1.toNatClampNeg)]) (rest := [.int (2 * (ny_ab (f_re (hf i0.toNatClampNeg) (hf i1.toNatClampNeg))))]) ⟨hx, hb, hml, hown, hts⟩ (c_X2_size l (hf i1.toNatClampNeg)) (va_cwS 1 hts gX2_isHalf_X2_size rfl rfl rfl (by decide +kernel) ⟨Nat.le_of_ble_eq_true rfl, Nat.le_of_ble_eq_true rfl⟩) ⟨ny_blindT, fun U hU hW => ⟨rfl, trivial⟩⟩ rfl rfl hl.1 rfl (lv_room (Nat.le_of_ble_eq_true rfl)) dX2_isHalf_28 ⟨Nat.le_of_ble_eq_true rfl, Nat.le_of_ble_eq_true rfl⟩)) (fun r_28 hw_28 => ?_)
  have hw_28 : r_28 = ny_ab (hf i1.toNatClampNeg) := hw_28
  subst hw_28
  refine lv_icmp_ne (tgt := 38) hx hb dX2_isHalf_31 (by decide) (fun c_31 => ?_) (fun c_31 => ?_)
  · refine lv_iconst (v := 0) hx hb dX2_isHalf_38 (by decide) ?_
    have hP9 := hP.sub (ws' := [(mo, .inr (4, [.int 0, .ref m1, .ref m2, .ref m3, .ref m4, .int mn])), (m1, .inl (cI, 12, .inl hf))]) [0, 1] rfl
    have hD9 := hD.sub (ws' := [(mo, .inr (4, [.int 0, .ref m1, .ref m2, .ref m3, .ref m4, .int mn])), (m1, .inl (cI, 12, .inl hf))]) [0, 1] (by decide) rfl
    exact W.zret (v := 0) hx hb hr (by decide) (fun t ht hW => ⟨⟨0, (), rfl, (if_neg c_31).symm, by rw [ht]; exact hP9, va_K.moved hW.alike hK, hD9⟩, hS.F ht⟩) hS.2.2 dX2_isHalf_39
  · refine lv_iconst (v := 1) hx hb dX2_isHalf_34 (by decide) ?_
    refine lv_goto (tgt := 39) hx hb dX2_isHalf_35 (by decide) ?_
    have hP9 := hP.sub (ws' := [(mo, .inr (4, [.int 0, .ref m1, .ref m2, .ref m3, .ref m4, .int mn])), (m1, .inl (cI, 12, .inl hf))]) [0, 1] rfl
    have hD9 := hD.sub (ws' := [(mo, .inr (4, [.int 0, .ref m1, .ref m2, .ref m3, .ref m4, .int mn])), (m1, .inl (cI, 12, .inl hf))]) [0, 1] (by decide) rfl
    exact W.zret (v := 1) hx hb hr (by decide) (fun t ht hW => ⟨⟨1, (), rfl, (if_pos c_31).symm, by rw [ht]; exact hP9, va_K.moved hW.alike hK, hD9⟩, hS.F ht⟩) hS.2.2 dX2_isHalf_39
set_option maxHeartbeats 4000000 in
set_option maxRecDepth 100000 in
theorem c_X2_isHalf_noP (l : Launch) (D : va_G) (cI : ClassId) (mo : Nat) (m1 : Nat) (m2 : Nat) (m3 : Nat) (m4 : Nat) (sz : Nat) (th : Int32) (mn : Int32) (hf : Nat → Int32) (i0 : Int32) (i1 : Int32) (gb : ¬ vp_in i0 12 ∨ ¬ vp_in i1 12) : Met l yX2_isHalf wsX2_isHalf ({ frames := 2, cells := 0, slots := 0, locals := 46 }) (va_Pc [.ref mo, .int i0, .int i1] (ny_pre D [(cI, .int)] [(mo, .inr (4, [.int th, .ref m1, .ref m2, .ref m3, .ref m4, .int mn])), (m1, .inl (cI, 12, .inl hf))] sz)) (va_Qi (fun (r : Int32) (u : Unit) => r = 0) (fun (u : Unit) t => ny_at D [(cI, .int)] (va_A [(mo, .inr (4, [.int th, .ref m1, .ref m2, .ref m3, .ref m4, .int mn])), (m1, .inl (cI, 12, .inl hf))] sz) [(mo, .inr (4, [.int 1, .ref m1, .ref m2, .ref m3, .ref m4, .int mn])), (m1, .inl (cI, 12, .inl hf))] t) (va_A [(mo, .inr (4, [.int th, .ref m1, .ref m2, .ref m3, .ref m4, .int mn])), (m1, .inl (cI, 12, .inl hf))] sz)) 0 0 (va_A [(mo, .inr (4, [.int th, .ref m1, .ref m2, .ref m3, .ref m4, .int mn])), (m1, .inl (cI, 12, .inl hf))] sz) := by
  refine Met.ofW (cc := cX2_isHalf) (maxL := 3) (ret := (some .boolean)) (by decide) rfl ?_
  intro p e s m args below meth c s₁ B hml hv
  obtain ⟨rfl, hsz, hP, hK, hD0, hE⟩ := hv
  have hx := B.exec
  have hb := B.bytes
  have hr := B.returns
  have hts := atoms_spec (ws := wsX2_isHalf) B.pre
  have hown : s.vm.findClass RX2 = some m.cls := findClass_of_methodNamed B.named
  have hlocks := B.notSynchronized
  subst hsz
  have hD := hD0.self (sz := s.heap.size)
  generalize hAe : va_A [(mo, .inr (4, [.int th, .ref m1, .ref m2, .ref m3, .ref m4, .int mn])), (m1, .inl (cI, 12, .inl hf))] s.heap.size = A at hD hE ⊢
  have hA : ∀ q : Nat, s.heap.size ≤ q → A q := fun q h => by rw [← hAe]; exact Or.inr h
  have hS : va_S A s.heap s.heap [] := va_S.rf
  have hl := lv_entry ([.ref mo, .int i0, .int i1]) (n := 3) (Nat.le_of_ble_eq_true rfl)
  rw [lg_entry_eq]
  generalize (lg_sl ([.ref mo, .int i0, .int i1]) ++ List.replicate (3 - (lg_sl ([.ref mo, .int i0, .int i1])).length) Slot.unset).toArray = ls at hl ⊢
  have hl : lv_has ls 3 [(0, .ref mo), (1, .int i0), (2, .int i1)] := hl
  refine lv_aload_n hx hb dX2_isHalf_0 rfl (lv_at hl 0 rfl) ?_
  refine lv_iload_n hx hb dX2_isHalf_1 rfl (lv_at hl 1 rfl) ?_
  refine lv_iload_n hx hb dX2_isHalf_2 rfl (lv_at hl 1 rfl) ?_
  refine lv_iload_n hx hb dX2_isHalf_3 rfl (lv_at hl 1 rfl) ?_
  refine lv_iload_n hx hb dX2_isHalf_4 rfl (lv_at hl 2 rfl) ?_
  refine ny_i (wc := [(mo, .inr (4, [.int th, .ref m1, .ref m2, .ref m3, .ref m4, .int mn])), (m1, .inl (cI, 12, .inl hf))]) (wr := []) hP hD hS hA [0, 1] [] rfl rfl (by decide) (by decide) (va_runV (As := [.int i0, .int i0, .int i0, .int i1]) (rest := []) ⟨hx, hb, hml, hown, hts⟩ (c_X2_isBad_noP l D cI mo m1 m2 m3 m4 s.heap.size th mn hf i0 i0 i0 i1 (by rcases gb with h | h <;> simp [h])) (cwV 4 hts gX2_isHalf_X2_isBad rfl rfl rfl (by decide +kernel) ⟨Nat.le_of_ble_eq_true rfl, Nat.le_of_ble_eq_true rfl⟩) ⟨ny_blind, va_recv hK hP (ci := 4) (q0 := 0) rfl rfl, fun U hU hW => ⟨rfl, ny_preU hE hP hK hD hS hA [0, 1] rfl (by decide) rfl [0] rfl U hU hW⟩⟩ rfl rfl hl.1 rfl (lv_room (Nat.le_of_ble_eq_true rfl)) dX2_isHalf_5 ⟨Nat.le_of_ble_eq_true rfl, Nat.le_of_ble_eq_true rfl⟩) (fun r_5 u H locs hw_5 hP hD hS => ?_)
  have hP : va_P D vwCl [(mo, .inr (4, [.int 1, .ref m1, .ref m2, .ref m3, .ref m4, .int mn])), (m1, .inl (cI, 12, .inl hf))] H := hP
  have hD : va_D A [(mo, .inr (4, [.int 1, .ref m1, .ref m2, .ref m3, .ref m4, .int mn])), (m1, .inl (cI, 12, .inl hf))] := hD
  have hw_5 : r_5 = 1 := hw_5
  subst hw_5
  refine lv_if_ne (tgt := 38) hx hb dX2_isHalf_8 (by decide) (fun c_8 => ?_) (fun c_8 => absurd c_8 (show ¬ ((1 : Int32) = 0) by  decide))
  refine lv_iconst (v := 0) hx hb dX2_isHalf_38 (by decide) ?_
  have hP9 := hP.sub (ws' := [(mo, .inr (4, [.int 1, .ref m1, .ref m2, .ref m3, .ref m4, .int mn])), (m1, .inl (cI, 12, .inl hf))]) [0, 1] rfl
  have hD9 := hD.sub (ws' := [(mo, .inr (4, [.int 1, .ref m1, .ref m2, .ref m3, .ref m4, .int mn])), (m1, .inl (cI, 12, .inl hf))]) [0, 1] (by decide) rfl
  exact W.zret (v := 0) hx hb hr (by decide) (fun t ht hW => ⟨⟨0, (), rfl, (rfl), by rw [ht]; exact hP9, va_K.moved hW.alike hK, hD9⟩, hS.F ht⟩) hS.2.2 dX2_isHalf_39
set_option maxHeartbeats 4000000 in
set_option maxRecDepth 100000 in
theorem c_X2_isHalf_no0 (l : Launch) (D : va_G) (cI : ClassId) (mo : Nat) (m1 : Nat) (m2 : Nat) (m3 : Nat) (m4 : Nat) (sz : Nat) (th : Int32) (mn : Int32) (hf : Nat → Int32) (i0 : Int32) (i1 : Int32) (gp0 : vp_in i0 12) (gp1 : vp_in i1 12) (g0 : hf i1.toNatClampNeg = 0) : Met l yX2_isHalf wsX2_isHalf ({ frames := 2, cells := 0, slots := 0, locals := 46 }) (va_Pc [.ref mo, .int i0, .int i1] (ny_pre D [(cI, .int)] [(mo, .inr (4, [.int th, .ref m1, .ref m2, .ref m3, .ref m4, .int mn])), (m1, .inl (cI, 12, .inl hf))] sz)) (va_Qi (fun (r : Int32) (u : Unit) => r = 0) (fun (u : Unit) t => ny_at D [(cI, .int)] (va_A [(mo, .inr (4, [.int th, .ref m1, .ref m2, .ref m3, .ref m4, .int mn])), (m1, .inl (cI, 12, .inl hf))] sz) [(mo, .inr (4, [.int 2, .ref m1, .ref m2, .ref m3, .ref m4, .int mn])), (m1, .inl (cI, 12, .inl hf))] t) (va_A [(mo, .inr (4, [.int th, .ref m1, .ref m2, .ref m3, .ref m4, .int mn])), (m1, .inl (cI, 12, .inl hf))] sz)) 0 0 (va_A [(mo, .inr (4, [.int th, .ref m1, .ref m2, .ref m3, .ref m4, .int mn])), (m1, .inl (cI, 12, .inl hf))] sz) := by
  refine Met.ofW (cc := cX2_isHalf) (maxL := 3) (ret := (some .boolean)) (by decide) rfl ?_
  intro p e s m args below meth c s₁ B hml hv
  obtain ⟨rfl, hsz, hP, hK, hD0, hE⟩ := hv
  have hx := B.exec
  have hb := B.bytes
  have hr := B.returns
  have hts := atoms_spec (ws := wsX2_isHalf) B.pre
  have hown : s.vm.findClass RX2 = some m.cls := findClass_of_methodNamed B.named
  have hlocks := B.notSynchronized
  subst hsz
  have hD := hD0.self (sz := s.heap.size)
  generalize hAe : va_A [(mo, .inr (4, [.int th, .ref m1, .ref m2, .ref m3, .ref m4, .int mn])), (m1, .inl (cI, 12, .inl hf))] s.heap.size = A at hD hE ⊢
  have hA : ∀ q : Nat, s.heap.size ≤ q → A q := fun q h => by rw [← hAe]; exact Or.inr h
  have hS : va_S A s.heap s.heap [] := va_S.rf
  have hl := lv_entry ([.ref mo, .int i0, .int i1]) (n := 3) (Nat.le_of_ble_eq_true rfl)
  rw [lg_entry_eq]
  generalize (lg_sl ([.ref mo, .int i0, .int i1]) ++ List.replicate (3 - (lg_sl ([.ref mo, .int i0, .int i1])).length) Slot.unset).toArray = ls at hl ⊢
  have hl : lv_has ls 3 [(0, .ref mo), (1, .int i0), (2, .int i1)] := hl
  refine lv_aload_n hx hb dX2_isHalf_0 rfl (lv_at hl 0 rfl) ?_
  refine lv_iload_n hx hb dX2_isHalf_1 rfl (lv_at hl 1 rfl) ?_
  refine lv_iload_n hx hb dX2_isHalf_2 rfl (lv_at hl 1 rfl) ?_
  refine lv_iload_n hx hb dX2_isHalf_3 rfl (lv_at hl 1 rfl) ?_
  refine lv_iload_n hx hb dX2_isHalf_4 rfl (lv_at hl 2 rfl) ?_
  refine ny_i (wc := [(mo, .inr (4, [.int th, .ref m1, .ref m2, .ref m3, .ref m4, .int mn])), (m1, .inl (cI, 12, .inl hf))]) (wr := []) hP hD hS hA [0, 1] [] rfl rfl (by decide) (by decide) (va_runV (As := [.int i0, .int i0, .int i0, .int i1]) (rest := []) ⟨hx, hb, hml, hown, hts⟩ (c_X2_isBad_no0 l D cI mo m1 m2 m3 m4 s.heap.size th mn hf i0 i0 i0 i1 (by assumption) (by assumption) (by assumption) (by assumption) (by assumption)) (cwV 4 hts gX2_isHalf_X2_isBad rfl rfl rfl (by decide +kernel) ⟨Nat.le_of_ble_eq_true rfl, Nat.le_of_ble_eq_true rfl⟩) ⟨ny_blind, va_recv hK hP (ci := 4) (q0 := 0) rfl rfl, fun U hU hW => ⟨rfl, ny_preU hE hP hK hD hS hA [0, 1] rfl (by decide) rfl [0] rfl U hU hW⟩⟩ rfl rfl hl.1 rfl (lv_room (Nat.le_of_ble_eq_true rfl)) dX2_isHalf_5 ⟨Nat.le_of_ble_eq_true rfl, Nat.le_of_ble_eq_true rfl⟩) (fun r_5 u H locs hw_5 hP hD hS => ?_)
  have hP : va_P D vwCl [(mo, .inr (4, [.int 2, .ref m1, .ref m2, .ref m3, .ref m4, .int mn])), (m1, .inl (cI, 12, .inl hf))] H := hP
  have hD : va_D A [(mo, .inr (4, [.int 2, .ref m1, .ref m2, .ref m3, .ref m4, .int mn])), (m1, .inl (cI, 12, .inl hf))] := hD
  have hw_5 : r_5 = 1 := hw_5
  subst hw_5
  refine lv_if_ne (tgt := 38) hx hb dX2_isHalf_8 (by decide) (fun c_8 => ?_) (fun c_8 => absurd c_8 (show ¬ ((1 : Int32) = 0) by  decide))
  refine lv_iconst (v := 0) hx hb dX2_isHalf_38 (by decide) ?_
  have hP9 := hP.sub (ws' := [(mo, .inr (4, [.int 2, .ref m1, .ref m2, .ref m3, .ref m4, .int mn])), (m1, .inl (cI, 12, .inl hf))]) [0, 1] rfl
  have hD9 := hD.sub (ws' := [(mo, .inr (4, [.int 2, .ref m1, .ref m2, .ref m3, .ref m4, .int mn])), (m1, .inl (cI, 12, .inl hf))]) [0, 1] (by decide) rfl
  exact W.zret (v := 0) hx hb hr (by decide) (fun t ht hW => ⟨⟨0, (), rfl, (rfl), by rw [ht]; exact hP9, va_K.moved hW.alike hK, hD9⟩, hS.F ht⟩) hS.2.2 dX2_isHalf_39
set_option maxHeartbeats 4000000 in
set_option maxRecDepth 100000 in
theorem c_X2_cut (l : Launch) (D : va_G) (cI : ClassId) (cZ : ClassId) (mo : Nat) (m1 : Nat) (m2 : Nat) (m3 : Nat) (m4 : Nat) (sz : Nat) (th : Int32) (mn : Int32) (hf : Nat → Int32) (bf : Nat → Int32) (i0 : Int32) (i1 : Int32) (i2 : Int32) (gp0 : vp_in i0 12) (gp1 : vp_in i1 12) (gp2 : vp_in i2 12) (g0 : ¬ hf i2.toNatClampNeg = 0) (gH : ny_H hf) (gB : ny_BB bf) : Met l yX2_cut wsX2_cut ({ frames := 3, cells := 0, slots := 0, locals := 70 }) (va_Pc [.ref mo, .int i0, .int i1, .int i2] (ny_pre D [(cI, .int), (cZ, .boolean)] [(mo, .inr (4, [.int th, .ref m1, .ref m2, .ref m3, .ref m4, .int mn])), (m1, .inl (cI, 12, .inl hf)), (m2, .inl (cZ, 12, .inl bf))] sz)) (va_Ql (fun (r : Int64) (u : Unit) => r = f_bt (f_cu (hf i1.toNatClampNeg) (hf i2.toNatClampNeg)) (f_un (hf i1.toNatClampNeg) (bf i1.toNatClampNeg))) (fun (u : Unit) t => ny_at D [(cI, .int), (cZ, .boolean)] (va_A [(mo, .inr (4, [.int th, .ref m1, .ref m2, .ref m3, .ref m4, .int mn])), (m1, .inl (cI, 12, .inl hf)), (m2, .inl (cZ, 12, .inl bf))] sz) [(mo, .inr (4, [.int 0, .ref m1, .ref m2, .ref m3, .ref m4, .int mn])), (m1, .inl (cI, 12, .inl (upd hf i0.toNatClampNeg (f_cu (hf i1.toNatClampNeg) (hf i2.toNatClampNeg))))), (m2, .inl (cZ, 12, .inl (upd bf i0.toNatClampNeg (f_z (f_cu (hf i1.toNatClampNeg) (hf i2.toNatClampNeg)) (f_un (hf i1.toNatClampNeg) (bf i1.toNatClampNeg))))))] t) (va_A [(mo, .inr (4, [.int th, .ref m1, .ref m2, .ref m3, .ref m4, .int mn])), (m1, .inl (cI, 12, .inl hf)), (m2, .inl (cZ, 12, .inl bf))] sz)) 0 0 (va_A [(mo, .inr (4, [.int th, .ref m1, .ref m2, .ref m3, .ref m4, .int mn])), (m1, .inl (cI, 12, .inl hf)), (m2, .inl (cZ, 12, .inl bf))] sz) := by
  refine Met.ofW (cc := cX2_cut) (maxL := 4) (ret := (some .long)) (by decide) rfl ?_
  intro p e s m args below meth c s₁ B hml hv
  obtain ⟨rfl, hsz, hP, hK, hD0, hE⟩ := hv
  have hx := B.exec
  have hb := B.bytes
  have hr := B.returns
  have hts := atoms_spec (ws := wsX2_cut) B.pre
  have hown : s.vm.findClass RX2 = some m.cls := findClass_of_methodNamed B.named
  have hlocks := B.notSynchronized
  subst hsz
  have hD := hD0.self (sz := s.heap.size)
  generalize hAe : va_A [(mo, .inr (4, [.int th, .ref m1, .ref m2, .ref m3, .ref m4, .int mn])), (m1, .inl (cI, 12, .inl hf)), (m2, .inl (cZ, 12, .inl bf))] s.heap.size = A at hD hE ⊢
  have hA : ∀ q : Nat, s.heap.size ≤ q → A q := fun q h => by rw [← hAe]; exact Or.inr h
  have hS : va_S A s.heap s.heap [] := va_S.rf
  have hl := lv_entry ([.ref mo, .int i0, .int i1, .int i2]) (n := 4) (Nat.le_of_ble_eq_true rfl)
  rw [lg_entry_eq]
  generalize (lg_sl ([.ref mo, .int i0, .int i1, .int i2]) ++ List.replicate (4 - (lg_sl ([.ref mo, .int i0, .int i1, .int i2])).length) Slot.unset).toArray = ls at hl ⊢
  have hl : lv_has ls 4 [(0, .ref mo), (1, .int i0), (2, .int i1), (3, .int i2)] := hl
  refine lv_aload_n hx hb dX2_cut_0 rfl (lv_at hl 0 rfl) ?_
  refine lv_iload_n hx hb dX2_cut_1 rfl (lv_at hl 1 rfl) ?_
  refine lv_iload_n hx hb dX2_cut_2 rfl (lv_at hl 2 rfl) ?_
  refine lv_iload_n hx hb dX2_cut_3 rfl (lv_at hl 2 rfl) ?_
  refine lv_iload_n hx hb dX2_cut_4 rfl (lv_at hl 3 rfl) ?_
  refine ny_i (wc := [(mo, .inr (4, [.int th, .ref m1, .ref m2, .ref m3, .ref m4, .int mn])), (m1, .inl (cI, 12, .inl hf))]) (wr := [(m2, .inl (cZ, 12, .inl bf))]) hP hD hS hA [0, 1] [2] rfl rfl (by decide) (by decide) (va_runV (As := [.int i0, .int i1, .int i1, .int i2]) (rest := []) ⟨hx, hb, hml, hown, hts⟩ (c_X2_isBad l D cI mo m1 m2 m3 m4 s.heap.size th mn hf i0 i1 i1 i2 (by assumption) (by assumption) (by assumption) (by assumption) (by assumption)) (cwV 4 hts gX2_cut_X2_isBad rfl rfl rfl (by decide +kernel) ⟨Nat.le_of_ble_eq_true rfl, Nat.le_of_ble_eq_true rfl⟩) ⟨ny_blind, va_recv hK hP (ci := 4) (q0 := 0) rfl rfl, fun U hU hW => ⟨rfl, ny_preU hE hP hK hD hS hA [0, 1] rfl (by decide) rfl [0] rfl U hU hW⟩⟩ rfl rfl hl.1 rfl (lv_room (Nat.le_of_ble_eq_true rfl)) dX2_cut_5 ⟨Nat.le_of_ble_eq_true rfl, Nat.le_of_ble_eq_true rfl⟩) (fun r_5 u H locs hw_5 hP hD hS => ?_)
  have hP : va_P D vwCl [(m2, .inl (cZ, 12, .inl bf)), (mo, .inr (4, [.int 0, .ref m1, .ref m2, .ref m3, .ref m4, .int mn])), (m1, .inl (cI, 12, .inl hf))] H := hP
  have hD : va_D A [(m2, .inl (cZ, 12, .inl bf)), (mo, .inr (4, [.int 0, .ref m1, .ref m2, .ref m3, .ref m4, .int mn])), (m1, .inl (cI, 12, .inl hf))] := hD
  have hw_5 : r_5 = 0 := hw_5
  subst hw_5
  refine lv_if_eq (tgt := 15) hx hb dX2_cut_8 (by decide) (fun c_8 => ?_) (fun c_8 => absurd (show (0 : Int32) = 0 by  decide) c_8)
  refine lv_aload_n hx hb dX2_cut_15 rfl (lv_at hl 0 rfl) ?_
  refine lv_iload_n hx hb dX2_cut_16 rfl (lv_at hl 1 rfl) ?_
  refine lv_aload_n hx hb dX2_cut_17 rfl (lv_at hl 0 rfl) ?_
  refine lv_iload_n hx hb dX2_cut_18 rfl (lv_at hl 2 rfl) ?_
  refine lv_iload_n hx hb dX2_cut_19 rfl (lv_at hl 3 rfl) ?_
  refine vp_callSi (va_Run.run (va_runV (As := [.int i1, .int i2]) (rest := [.int i0, .ref mo]) ⟨hx, hb, hml, hown, hts⟩ (c_X2_cutOf l D cI mo m1 m2 m3 m4 H.size 0 mn hf i1 i2 (by assumption) (by assumption) (by assumption) (by assumption)) (cwV 2 hts gX2_cut_X2_cutOf rfl rfl rfl (by decide +kernel) ⟨Nat.le_of_ble_eq_true rfl, Nat.le_of_ble_eq_true rfl⟩) ⟨ny_blind, va_recv hK hP (ci := 4) (q0 := 1) rfl rfl, fun U hU hW => ⟨rfl, ny_preU hE hP hK hD hS hA [1, 2] rfl (by decide) rfl [0] rfl U hU hW⟩⟩ rfl rfl hl.1 rfl (lv_room (Nat.le_of_ble_eq_true rfl)) dX2_cut_20 ⟨Nat.le_of_ble_eq_true rfl, Nat.le_of_ble_eq_true rfl⟩)) (fun r_20 hw_20 => ?_)
  have hw_20 : r_20 = f_cu (hf i1.toNatClampNeg) (hf i2.toNatClampNeg) := hw_20
  subst hw_20
  refine lv_aload_n hx hb dX2_cut_23 rfl (lv_at hl 0 rfl) ?_
  refine lv_iload_n hx hb dX2_cut_24 rfl (lv_at hl 2 rfl) ?_
  refine vp_callSi (va_Run.run (va_runV (As := [.int i1]) (rest := [.int (f_cu (hf i1.toNatClampNeg) (hf i2.toNatClampNeg)), .int i0, .ref mo]) ⟨hx, hb, hml, hown, hts⟩ (c_X2_isUnder l D cI cZ mo m1 m2 m3 m4 H.size 0 mn hf bf i1 (by assumption) (by assumption)) (cwV 1 hts gX2_cut_X2_isUnder rfl rfl rfl (by decide +kernel) ⟨Nat.le_of_ble_eq_true rfl, Nat.le_of_ble_eq_true rfl⟩) ⟨ny_blind, va_recv hK hP (ci := 4) (q0 := 1) rfl rfl, fun U hU hW => ⟨rfl, ny_preU hE hP hK hD hS hA [1, 2, 0] rfl (by decide) rfl [0, 1] rfl U hU hW⟩⟩ rfl rfl hl.1 rfl (lv_room (Nat.le_of_ble_eq_true rfl)) dX2_cut_25 ⟨Nat.le_of_ble_eq_true rfl, Nat.le_of_ble_eq_true rfl⟩)) (fun r_25 hw_25 => ?_)
  have hw_25 : r_25 = f_un (hf i1.toNatClampNeg) (bf i1.toNatClampNeg) := hw_25
  subst hw_25
  refine ny_l (wc := [(mo, .inr (4, [.int 0, .ref m1, .ref m2, .ref m3, .ref m4, .int mn])), (m1, .inl (cI, 12, .inl hf)), (m2, .inl (cZ, 12, .inl bf))]) (wr := []) hP hD hS hA [1, 2, 0] [] rfl rfl (by decide) (by decide) (va_runV (As := [.int i0, .int (f_cu (hf i1.toNatClampNeg) (hf i2.toNatClampNeg)), .int (f_un (hf i1.toNatClampNeg) (bf i1.toNatClampNeg))]) (rest := []) ⟨hx, hb, hml, hown, hts⟩ (c_X2_lays l D cI cZ mo m1 m2 m3 m4 H.size 0 mn hf bf i0 (f_cu (hf i1.toNatClampNeg) (hf i2.toNatClampNeg)) (f_un (hf i1.toNatClampNeg) (bf i1.toNatClampNeg)) (by assumption) (n_R_cu (gH _ (n_ix gp1))) (f_un_B (gB _ (n_ix gp1)))) (cwV 3 hts gX2_cut_X2_lays rfl rfl rfl (by decide +kernel) ⟨Nat.le_of_ble_eq_true rfl, Nat.le_of_ble_eq_true rfl⟩) ⟨ny_blind, va_recv hK hP (ci := 4) (q0 := 1) rfl rfl, fun U hU hW => ⟨rfl, ny_preU hE hP hK hD hS hA [1, 2, 0] rfl (by decide) rfl [0, 1] rfl U hU hW⟩⟩ rfl rfl hl.1 rfl (lv_room (Nat.le_of_ble_eq_true rfl)) dX2_cut_28 ⟨Nat.le_of_ble_eq_true rfl, Nat.le_of_ble_eq_true rfl⟩) (fun r_28 u H locs hw_28 hP hD hS => ?_)
  have hP : va_P D vwCl [(mo, .inr (4, [.int 0, .ref m1, .ref m2, .ref m3, .ref m4, .int mn])), (m1, .inl (cI, 12, .inl (upd hf i0.toNatClampNeg (f_cu (hf i1.toNatClampNeg) (hf i2.toNatClampNeg))))), (m2, .inl (cZ, 12, .inl (upd bf i0.toNatClampNeg (f_z (f_cu (hf i1.toNatClampNeg) (hf i2.toNatClampNeg)) (f_un (hf i1.toNatClampNeg) (bf i1.toNatClampNeg))))))] H := hP
  have hD : va_D A [(mo, .inr (4, [.int 0, .ref m1, .ref m2, .ref m3, .ref m4, .int mn])), (m1, .inl (cI, 12, .inl (upd hf i0.toNatClampNeg (f_cu (hf i1.toNatClampNeg) (hf i2.toNatClampNeg))))), (m2, .inl (cZ, 12, .inl (upd bf i0.toNatClampNeg (f_z (f_cu (hf i1.toNatClampNeg) (hf i2.toNatClampNeg)) (f_un (hf i1.toNatClampNeg) (bf i1.toNatClampNeg))))))] := hD
  have hw_28 : r_28 = f_bt (f_cu (hf i1.toNatClampNeg) (hf i2.toNatClampNeg)) (f_un (hf i1.toNatClampNeg) (bf i1.toNatClampNeg)) := hw_28
  subst hw_28
  have hP9 := hP.sub (ws' := [(mo, .inr (4, [.int 0, .ref m1, .ref m2, .ref m3, .ref m4, .int mn])), (m1, .inl (cI, 12, .inl (upd hf i0.toNatClampNeg (f_cu (hf i1.toNatClampNeg) (hf i2.toNatClampNeg))))), (m2, .inl (cZ, 12, .inl (upd bf i0.toNatClampNeg (f_z (f_cu (hf i1.toNatClampNeg) (hf i2.toNatClampNeg)) (f_un (hf i1.toNatClampNeg) (bf i1.toNatClampNeg))))))]) [0, 1, 2] rfl
  have hD9 := hD.sub (ws' := [(mo, .inr (4, [.int 0, .ref m1, .ref m2, .ref m3, .ref m4, .int mn])), (m1, .inl (cI, 12, .inl (upd hf i0.toNatClampNeg (f_cu (hf i1.toNatClampNeg) (hf i2.toNatClampNeg))))), (m2, .inl (cZ, 12, .inl (upd bf i0.toNatClampNeg (f_z (f_cu (hf i1.toNatClampNeg) (hf i2.toNatClampNeg)) (f_un (hf i1.toNatClampNeg) (bf i1.toNatClampNeg))))))]) [0, 1, 2] (by decide) rfl
  exact W.lret (v := f_bt (f_cu (hf i1.toNatClampNeg) (hf i2.toNatClampNeg)) (f_un (hf i1.toNatClampNeg) (bf i1.toNatClampNeg))) hx hb hr (fun t ht hW => ⟨⟨f_bt (f_cu (hf i1.toNatClampNeg) (hf i2.toNatClampNeg)) (f_un (hf i1.toNatClampNeg) (bf i1.toNatClampNeg)), (), rfl, (rfl), by rw [ht]; exact hP9, va_K.moved hW.alike hK, hD9⟩, hS.F ht⟩) hS.2.2 dX2_cut_31
set_option maxHeartbeats 4000000 in
set_option maxRecDepth 100000 in
theorem c_X2_cut_noP (l : Launch) (D : va_G) (cI : ClassId) (cZ : ClassId) (mo : Nat) (m1 : Nat) (m2 : Nat) (m3 : Nat) (m4 : Nat) (sz : Nat) (th : Int32) (mn : Int32) (hf : Nat → Int32) (bf : Nat → Int32) (i0 : Int32) (i1 : Int32) (i2 : Int32) (gb : ¬ vp_in i0 12 ∨ (¬ vp_in i1 12 ∨ ¬ vp_in i2 12)) : Met l yX2_cut wsX2_cut ({ frames := 2, cells := 0, slots := 0, locals := 46 }) (va_Pc [.ref mo, .int i0, .int i1, .int i2] (ny_pre D [(cI, .int), (cZ, .boolean)] [(mo, .inr (4, [.int th, .ref m1, .ref m2, .ref m3, .ref m4, .int mn])), (m1, .inl (cI, 12, .inl hf)), (m2, .inl (cZ, 12, .inl bf))] sz)) (va_Ql (fun (r : Int64) (u : Unit) => r = 0) (fun (u : Unit) t => ny_at D [(cI, .int), (cZ, .boolean)] (va_A [(mo, .inr (4, [.int th, .ref m1, .ref m2, .ref m3, .ref m4, .int mn])), (m1, .inl (cI, 12, .inl hf)), (m2, .inl (cZ, 12, .inl bf))] sz) [(mo, .inr (4, [.int 1, .ref m1, .ref m2, .ref m3, .ref m4, .int mn])), (m1, .inl (cI, 12, .inl hf)), (m2, .inl (cZ, 12, .inl bf))] t) (va_A [(mo, .inr (4, [.int th, .ref m1, .ref m2, .ref m3, .ref m4, .int mn])), (m1, .inl (cI, 12, .inl hf)), (m2, .inl (cZ, 12, .inl bf))] sz)) 0 0 (va_A [(mo, .inr (4, [.int th, .ref m1, .ref m2, .ref m3, .ref m4, .int mn])), (m1, .inl (cI, 12, .inl hf)), (m2, .inl (cZ, 12, .inl bf))] sz) := by
  refine Met.ofW (cc := cX2_cut) (maxL := 4) (ret := (some .long)) (by decide) rfl ?_
  intro p e s m args below meth c s₁ B hml hv
  obtain ⟨rfl, hsz, hP, hK, hD0, hE⟩ := hv
  have hx := B.exec
  have hb := B.bytes
  have hr := B.returns
  have hts := atoms_spec (ws := wsX2_cut) B.pre
  have hown : s.vm.findClass RX2 = some m.cls := findClass_of_methodNamed B.named
  have hlocks := B.notSynchronized
  subst hsz
  have hD := hD0.self (sz := s.heap.size)
  generalize hAe : va_A [(mo, .inr (4, [.int th, .ref m1, .ref m2, .ref m3, .ref m4, .int mn])), (m1, .inl (cI, 12, .inl hf)), (m2, .inl (cZ, 12, .inl bf))] s.heap.size = A at hD hE ⊢
  have hA : ∀ q : Nat, s.heap.size ≤ q → A q := fun q h => by rw [← hAe]; exact Or.inr h
  have hS : va_S A s.heap s.heap [] := va_S.rf
  have hl := lv_entry ([.ref mo, .int i0, .int i1, .int i2]) (n := 4) (Nat.le_of_ble_eq_true rfl)
  rw [lg_entry_eq]
  generalize (lg_sl ([.ref mo, .int i0, .int i1, .int i2]) ++ List.replicate (4 - (lg_sl ([.ref mo, .int i0, .int i1, .int i2])).length) Slot.unset).toArray = ls at hl ⊢
  have hl : lv_has ls 4 [(0, .ref mo), (1, .int i0), (2, .int i1), (3, .int i2)] := hl
  refine lv_aload_n hx hb dX2_cut_0 rfl (lv_at hl 0 rfl) ?_
  refine lv_iload_n hx hb dX2_cut_1 rfl (lv_at hl 1 rfl) ?_
  refine lv_iload_n hx hb dX2_cut_2 rfl (lv_at hl 2 rfl) ?_
  refine lv_iload_n hx hb dX2_cut_3 rfl (lv_at hl 2 rfl) ?_
  refine lv_iload_n hx hb dX2_cut_4 rfl (lv_at hl 3 rfl) ?_
  refine ny_i (wc := [(mo, .inr (4, [.int th, .ref m1, .ref m2, .ref m3, .ref m4, .int mn])), (m1, .inl (cI, 12, .inl hf))]) (wr := [(m2, .inl (cZ, 12, .inl bf))]) hP hD hS hA [0, 1] [2] rfl rfl (by decide) (by decide) (va_runV (As := [.int i0, .int i1, .int i1, .int i2]) (rest := []) ⟨hx, hb, hml, hown, hts⟩ (c_X2_isBad_noP l D cI mo m1 m2 m3 m4 s.heap.size th mn hf i0 i1 i1 i2 (by rcases gb with h | h | h <;> simp [h])) (cwV 4 hts gX2_cut_X2_isBad rfl rfl rfl (by decide +kernel) ⟨Nat.le_of_ble_eq_true rfl, Nat.le_of_ble_eq_true rfl⟩) ⟨ny_blind, va_recv hK hP (ci := 4) (q0 := 0) rfl rfl, fun U hU hW => ⟨rfl, ny_preU hE hP hK hD hS hA [0, 1] rfl (by decide) rfl [0] rfl U hU hW⟩⟩ rfl rfl hl.1 rfl (lv_room (Nat.le_of_ble_eq_true rfl)) dX2_cut_5 ⟨Nat.le_of_ble_eq_true rfl, Nat.le_of_ble_eq_true rfl⟩) (fun r_5 u H locs hw_5 hP hD hS => ?_)
  have hP : va_P D vwCl [(m2, .inl (cZ, 12, .inl bf)), (mo, .inr (4, [.int 1, .ref m1, .ref m2, .ref m3, .ref m4, .int mn])), (m1, .inl (cI, 12, .inl hf))] H := hP
  have hD : va_D A [(m2, .inl (cZ, 12, .inl bf)), (mo, .inr (4, [.int 1, .ref m1, .ref m2, .ref m3, .ref m4, .int mn])), (m1, .inl (cI, 12, .inl hf))] := hD
  have hw_5 : r_5 = 1 := hw_5
  subst hw_5
  refine lv_if_eq (tgt := 15) hx hb dX2_cut_8 (by decide) (fun c_8 => absurd c_8 (show ¬ ((1 : Int32) = 0) by  decide)) (fun c_8 => ?_)
  refine lv_lconst (v := 0) hx hb dX2_cut_11 (by decide) ?_
  refine lv_goto (tgt := 31) hx hb dX2_cut_12 (by decide) ?_
  have hP9 := hP.sub (ws' := [(mo, .inr (4, [.int 1, .ref m1, .ref m2, .ref m3, .ref m4, .int mn])), (m1, .inl (cI, 12, .inl hf)), (m2, .inl (cZ, 12, .inl bf))]) [1, 2, 0] rfl
  have hD9 := hD.sub (ws' := [(mo, .inr (4, [.int 1, .ref m1, .ref m2, .ref m3, .ref m4, .int mn])), (m1, .inl (cI, 12, .inl hf)), (m2, .inl (cZ, 12, .inl bf))]) [1, 2, 0] (by decide) rfl
  exact W.lret (v := 0) hx hb hr (fun t ht hW => ⟨⟨0, (), rfl, (rfl), by rw [ht]; exact hP9, va_K.moved hW.alike hK, hD9⟩, hS.F ht⟩) hS.2.2 dX2_cut_31
set_option maxHeartbeats 4000000 in
set_option maxRecDepth 100000 in
theorem c_X2_cut_no0 (l : Launch) (D : va_G) (cI : ClassId) (cZ : ClassId) (mo : Nat) (m1 : Nat) (m2 : Nat) (m3 : Nat) (m4 : Nat) (sz : Nat) (th : Int32) (mn : Int32) (hf : Nat → Int32) (bf : Nat → Int32) (i0 : Int32) (i1 : Int32) (i2 : Int32) (gp0 : vp_in i0 12) (gp1 : vp_in i1 12) (gp2 : vp_in i2 12) (g0 : hf i2.toNatClampNeg = 0) : Met l yX2_cut wsX2_cut ({ frames := 2, cells := 0, slots := 0, locals := 46 }) (va_Pc [.ref mo, .int i0, .int i1, .int i2] (ny_pre D [(cI, .int), (cZ, .boolean)] [(mo, .inr (4, [.int th, .ref m1, .ref m2, .ref m3, .ref m4, .int mn])), (m1, .inl (cI, 12, .inl hf)), (m2, .inl (cZ, 12, .inl bf))] sz)) (va_Ql (fun (r : Int64) (u : Unit) => r = 0) (fun (u : Unit) t => ny_at D [(cI, .int), (cZ, .boolean)] (va_A [(mo, .inr (4, [.int th, .ref m1, .ref m2, .ref m3, .ref m4, .int mn])), (m1, .inl (cI, 12, .inl hf)), (m2, .inl (cZ, 12, .inl bf))] sz) [(mo, .inr (4, [.int 2, .ref m1, .ref m2, .ref m3, .ref m4, .int mn])), (m1, .inl (cI, 12, .inl hf)), (m2, .inl (cZ, 12, .inl bf))] t) (va_A [(mo, .inr (4, [.int th, .ref m1, .ref m2, .ref m3, .ref m4, .int mn])), (m1, .inl (cI, 12, .inl hf)), (m2, .inl (cZ, 12, .inl bf))] sz)) 0 0 (va_A [(mo, .inr (4, [.int th, .ref m1, .ref m2, .ref m3, .ref m4, .int mn])), (m1, .inl (cI, 12, .inl hf)), (m2, .inl (cZ, 12, .inl bf))] sz) := by
  refine Met.ofW (cc := cX2_cut) (maxL := 4) (ret := (some .long)) (by decide) rfl ?_
  intro p e s m args below meth c s₁ B hml hv
  obtain ⟨rfl, hsz, hP, hK, hD0, hE⟩ := hv
  have hx := B.exec
  have hb := B.bytes
  have hr := B.returns
  have hts := atoms_spec (ws := wsX2_cut) B.pre
  have hown : s.vm.findClass RX2 = some m.cls := findClass_of_methodNamed B.named
  have hlocks := B.notSynchronized
  subst hsz
  have hD := hD0.self (sz := s.heap.size)
  generalize hAe : va_A [(mo, .inr (4, [.int th, .ref m1, .ref m2, .ref m3, .ref m4, .int mn])), (m1, .inl (cI, 12, .inl hf)), (m2, .inl (cZ, 12, .inl bf))] s.heap.size = A at hD hE ⊢
  have hA : ∀ q : Nat, s.heap.size ≤ q → A q := fun q h => by rw [← hAe]; exact Or.inr h
  have hS : va_S A s.heap s.heap [] := va_S.rf
  have hl := lv_entry ([.ref mo, .int i0, .int i1, .int i2]) (n := 4) (Nat.le_of_ble_eq_true rfl)
  rw [lg_entry_eq]
  generalize (lg_sl ([.ref mo, .int i0, .int i1, .int i2]) ++ List.replicate (4 - (lg_sl ([.ref mo, .int i0, .int i1, .int i2])).length) Slot.unset).toArray = ls at hl ⊢
  have hl : lv_has ls 4 [(0, .ref mo), (1, .int i0), (2, .int i1), (3, .int i2)] := hl
  refine lv_aload_n hx hb dX2_cut_0 rfl (lv_at hl 0 rfl) ?_
  refine lv_iload_n hx hb dX2_cut_1 rfl (lv_at hl 1 rfl) ?_
  refine lv_iload_n hx hb dX2_cut_2 rfl (lv_at hl 2 rfl) ?_
  refine lv_iload_n hx hb dX2_cut_3 rfl (lv_at hl 2 rfl) ?_
  refine lv_iload_n hx hb dX2_cut_4 rfl (lv_at hl 3 rfl) ?_
  refine ny_i (wc := [(mo, .inr (4, [.int th, .ref m1, .ref m2, .ref m3, .ref m4, .int mn])), (m1, .inl (cI, 12, .inl hf))]) (wr := [(m2, .inl (cZ, 12, .inl bf))]) hP hD hS hA [0, 1] [2] rfl rfl (by decide) (by decide) (va_runV (As := [.int i0, .int i1, .int i1, .int i2]) (rest := []) ⟨hx, hb, hml, hown, hts⟩ (c_X2_isBad_no0 l D cI mo m1 m2 m3 m4 s.heap.size th mn hf i0 i1 i1 i2 (by assumption) (by assumption) (by assumption) (by assumption) (by assumption)) (cwV 4 hts gX2_cut_X2_isBad rfl rfl rfl (by decide +kernel) ⟨Nat.le_of_ble_eq_true rfl, Nat.le_of_ble_eq_true rfl⟩) ⟨ny_blind, va_recv hK hP (ci := 4) (q0 := 0) rfl rfl, fun U hU hW => ⟨rfl, ny_preU hE hP hK hD hS hA [0, 1] rfl (by decide) rfl [0] rfl U hU hW⟩⟩ rfl rfl hl.1 rfl (lv_room (Nat.le_of_ble_eq_true rfl)) dX2_cut_5 ⟨Nat.le_of_ble_eq_true rfl, Nat.le_of_ble_eq_true rfl⟩) (fun r_5 u H locs hw_5 hP hD hS => ?_)
  have hP : va_P D vwCl [(m2, .inl (cZ, 12, .inl bf)), (mo, .inr (4, [.int 2, .ref m1, .ref m2, .ref m3, .ref m4, .int mn])), (m1, .inl (cI, 12, .inl hf))] H := hP
  have hD : va_D A [(m2, .inl (cZ, 12, .inl bf)), (mo, .inr (4, [.int 2, .ref m1, .ref m2, .ref m3, .ref m4, .int mn])), (m1, .inl (cI, 12, .inl hf))] := hD
  have hw_5 : r_5 = 1 := hw_5
  subst hw_5
  refine lv_if_eq (tgt := 15) hx hb dX2_cut_8 (by decide) (fun c_8 => absurd c_8 (show ¬ ((1 : Int32) = 0) by  decide)) (fun c_8 => ?_)
  refine lv_lconst (v := 0) hx hb dX2_cut_11 (by decide) ?_
  refine lv_goto (tgt := 31) hx hb dX2_cut_12 (by decide) ?_
  have hP9 := hP.sub (ws' := [(mo, .inr (4, [.int 2, .ref m1, .ref m2, .ref m3, .ref m4, .int mn])), (m1, .inl (cI, 12, .inl hf)), (m2, .inl (cZ, 12, .inl bf))]) [1, 2, 0] rfl
  have hD9 := hD.sub (ws' := [(mo, .inr (4, [.int 2, .ref m1, .ref m2, .ref m3, .ref m4, .int mn])), (m1, .inl (cI, 12, .inl hf)), (m2, .inl (cZ, 12, .inl bf))]) [1, 2, 0] (by decide) rfl
  exact W.lret (v := 0) hx hb hr (fun t ht hW => ⟨⟨0, (), rfl, (rfl), by rw [ht]; exact hP9, va_K.moved hW.alike hK, hD9⟩, hS.F ht⟩) hS.2.2 dX2_cut_31
set_option maxHeartbeats 4000000 in
set_option maxRecDepth 100000 in
theorem c_X2_apart (l : Launch) (D : va_G) (cI : ClassId) (mo : Nat) (m1 : Nat) (m2 : Nat) (m3 : Nat) (m4 : Nat) (sz : Nat) (th : Int32) (mn : Int32) (hf : Nat → Int32) (i0 : Int32) (i1 : Int32) (gp0 : vp_in i0 12) (gp1 : vp_in i1 12) (g0 : ¬ hf i1.toNatClampNeg = 0) (gH : ny_H hf) : Met l yX2_apart wsX2_apart ({ frames := 3, cells := 0, slots := 0, locals := 67 }) (va_Pc [.ref mo, .int i0, .int i1] (ny_pre D [(cI, .int)] [(mo, .inr (4, [.int th, .ref m1, .ref m2, .ref m3, .ref m4, .int mn])), (m1, .inl (cI, 12, .inl hf))] sz)) (va_Qi (fun (r : Int32) (u : Unit) => r = if (f_re (hf i0.toNatClampNeg) (hf i1.toNatClampNeg)) - (f_cu (hf i0.toNatClampNeg) (hf i1.toNatClampNeg)) < 0 then -1 else if (f_re (hf i0.toNatClampNeg) (hf i1.toNatClampNeg)) - (f_cu (hf i0.toNatClampNeg) (hf i1.toNatClampNeg)) = 0 then 0 else 1) (fun (u : Unit) t => ny_at D [(cI, .int)] (va_A [(mo, .inr (4, [.int th, .ref m1, .ref m2, .ref m3, .ref m4, .int mn])), (m1, .inl (cI, 12, .inl hf))] sz) [(mo, .inr (4, [.int 0, .ref m1, .ref m2, .ref m3, .ref m4, .int mn])), (m1, .inl (cI, 12, .inl hf))] t) (va_A [(mo, .inr (4, [.int th, .ref m1, .ref m2, .ref m3, .ref m4, .int mn])), (m1, .inl (cI, 12, .inl hf))] sz)) 0 0 (va_A [(mo, .inr (4, [.int th, .ref m1, .ref m2, .ref m3, .ref m4, .int mn])), (m1, .inl (cI, 12, .inl hf))] sz) := by
  refine Met.ofW (cc := cX2_apart) (maxL := 4) (ret := (some .int)) (by decide) rfl ?_
  intro p e s m args below meth c s₁ B hml hv
  obtain ⟨rfl, hsz, hP, hK, hD0, hE⟩ := hv
  have hx := B.exec
  have hb := B.bytes
  have hr := B.returns
  have hts := atoms_spec (ws := wsX2_apart) B.pre
  have hown : s.vm.findClass RX2 = some m.cls := findClass_of_methodNamed B.named
  have hlocks := B.notSynchronized
  subst hsz
  have hD := hD0.self (sz := s.heap.size)
  generalize hAe : va_A [(mo, .inr (4, [.int th, .ref m1, .ref m2, .ref m3, .ref m4, .int mn])), (m1, .inl (cI, 12, .inl hf))] s.heap.size = A at hD hE ⊢
  have hA : ∀ q : Nat, s.heap.size ≤ q → A q := fun q h => by rw [← hAe]; exact Or.inr h
  have hS : va_S A s.heap s.heap [] := va_S.rf
  have hl := lv_entry ([.ref mo, .int i0, .int i1]) (n := 4) (Nat.le_of_ble_eq_true rfl)
  rw [lg_entry_eq]
  generalize (lg_sl ([.ref mo, .int i0, .int i1]) ++ List.replicate (4 - (lg_sl ([.ref mo, .int i0, .int i1])).length) Slot.unset).toArray = ls at hl ⊢
  have hl : lv_has ls 4 [(0, .ref mo), (1, .int i0), (2, .int i1)] := hl
  refine lv_aload_n hx hb dX2_apart_0 rfl (lv_at hl 0 rfl) ?_
  refine lv_iload_n hx hb dX2_apart_1 rfl (lv_at hl 1 rfl) ?_
  refine lv_iload_n hx hb dX2_apart_2 rfl (lv_at hl 1 rfl) ?_
  refine lv_iload_n hx hb dX2_apart_3 rfl (lv_at hl 1 rfl) ?_
  refine lv_iload_n hx hb dX2_apart_4 rfl (lv_at hl 2 rfl) ?_
  refine ny_i (wc := [(mo, .inr (4, [.int th, .ref m1, .ref m2, .ref m3, .ref m4, .int mn])), (m1, .inl (cI, 12, .inl hf))]) (wr := []) hP hD hS hA [0, 1] [] rfl rfl (by decide) (by decide) (va_runV (As := [.int i0, .int i0, .int i0, .int i1]) (rest := []) ⟨hx, hb, hml, hown, hts⟩ (c_X2_isBad l D cI mo m1 m2 m3 m4 s.heap.size th mn hf i0 i0 i0 i1 (by assumption) (by assumption) (by assumption) (by assumption) (by assumption)) (cwV 4 hts gX2_apart_X2_isBad rfl rfl rfl (by decide +kernel) ⟨Nat.le_of_ble_eq_true rfl, Nat.le_of_ble_eq_true rfl⟩) ⟨ny_blind, va_recv hK hP (ci := 4) (q0 := 0) rfl rfl, fun U hU hW => ⟨rfl, ny_preU hE hP hK hD hS hA [0, 1] rfl (by decide) rfl [0] rfl U hU hW⟩⟩ rfl rfl hl.1 rfl (lv_room (Nat.le_of_ble_eq_true rfl)) dX2_apart_5 ⟨Nat.le_of_ble_eq_true rfl, Nat.le_of_ble_eq_true rfl⟩) (fun r_5 u H locs hw_5 hP hD hS => ?_)
  have hP : va_P D vwCl [(mo, .inr (4, [.int 0, .ref m1, .ref m2, .ref m3, .ref m4, .int mn])), (m1, .inl (cI, 12, .inl hf))] H := hP
  have hD : va_D A [(mo, .inr (4, [.int 0, .ref m1, .ref m2, .ref m3, .ref m4, .int mn])), (m1, .inl (cI, 12, .inl hf))] := hD
  have hw_5 : r_5 = 0 := hw_5
  subst hw_5
  refine lv_if_eq (tgt := 13) hx hb dX2_apart_8 (by decide) (fun c_8 => ?_) (fun c_8 => absurd (show (0 : Int32) = 0 by  decide) c_8)
  refine lv_aload_n hx hb dX2_apart_13 rfl (lv_at hl 0 rfl) ?_
  refine lv_iload_n hx hb dX2_apart_14 rfl (lv_at hl 1 rfl) ?_
  refine lv_iload_n hx hb dX2_apart_15 rfl (lv_at hl 2 rfl) ?_
  refine vp_callSi (va_Run.run (va_runV (As := [.int i0, .int i1]) (rest := []) ⟨hx, hb, hml, hown, hts⟩ (c_X2_left l D cI mo m1 m2 m3 m4 H.size 0 mn hf i0 i1 (by assumption) (by assumption) (by assumption) (by assumption)) (cwV 2 hts gX2_apart_X2_left rfl rfl rfl (by decide +kernel) ⟨Nat.le_of_ble_eq_true rfl, Nat.le_of_ble_eq_true rfl⟩) ⟨ny_blind, va_recv hK hP (ci := 4) (q0 := 0) rfl rfl, fun U hU hW => ⟨rfl, ny_preU hE hP hK hD hS hA [0, 1] rfl (by decide) rfl [0] rfl U hU hW⟩⟩ rfl rfl hl.1 rfl (lv_room (Nat.le_of_ble_eq_true rfl)) dX2_apart_16 ⟨Nat.le_of_ble_eq_true rfl, Nat.le_of_ble_eq_true rfl⟩)) (fun r_16 hw_16 => ?_)
  have hw_16 : r_16 = f_re (hf i0.toNatClampNeg) (hf i1.toNatClampNeg) := hw_16
  subst hw_16
  refine lv_aload_n hx hb dX2_apart_19 rfl (lv_at hl 0 rfl) ?_
  refine lv_iload_n hx hb dX2_apart_20 rfl (lv_at hl 1 rfl) ?_
  refine lv_iload_n hx hb dX2_apart_21 rfl (lv_at hl 2 rfl) ?_
  refine vp_callSi (va_Run.run (va_runV (As := [.int i0, .int i1]) (rest := [.int (f_re (hf i0.toNatClampNeg) (hf i1.toNatClampNeg))]) ⟨hx, hb, hml, hown, hts⟩ (c_X2_cutOf l D cI mo m1 m2 m3 m4 H.size 0 mn hf i0 i1 (by assumption) (by assumption) (by assumption) (by assumption)) (cwV 2 hts gX2_apart_X2_cutOf rfl rfl rfl (by decide +kernel) ⟨Nat.le_of_ble_eq_true rfl, Nat.le_of_ble_eq_true rfl⟩) ⟨ny_blind, va_recv hK hP (ci := 4) (q0 := 0) rfl rfl, fun U hU hW => ⟨rfl, ny_preU hE hP hK hD hS hA [0, 1] rfl (by decide) rfl [0] rfl U hU hW⟩⟩ rfl rfl hl.1 rfl (lv_room (Nat.le_of_ble_eq_true rfl)) dX2_apart_22 ⟨Nat.le_of_ble_eq_true rfl, Nat.le_of_ble_eq_true rfl⟩)) (fun r_22 hw_22 => ?_)
  have hw_22 : r_22 = f_cu (hf i0.toNatClampNeg) (hf i1.toNatClampNeg) := hw_22
  subst hw_22
  refine lv_isub hx hb dX2_apart_25 ?_
  refine lv_istore_n (lv' := [(3, .int ((f_re (hf i0.toNatClampNeg) (hf i1.toNatClampNeg)) - (f_cu (hf i0.toNatClampNeg) (hf i1.toNatClampNeg)))), (0, .ref mo), (1, .int i0), (2, .int i1)]) hx hb dX2_apart_26 rfl hl (by decide) rfl (fun ls hl => ?_)
  refine lv_iload_n hx hb dX2_apart_27 rfl (lv_at hl 0 rfl) ?_
  refine lv_if_ge (tgt := 35) hx hb dX2_apart_28 (by decide) (fun c_28 => ?_) (fun c_28 => ?_)
  · refine lv_iload_n hx hb dX2_apart_35 rfl (lv_at hl 0 rfl) ?_
    refine lv_if_le (tgt := 43) hx hb dX2_apart_36 (by decide) (fun c_36 => ?_) (fun c_36 => ?_)
    · refine lv_iconst (v := 0) hx hb dX2_apart_43 (by decide) ?_
      have hP9 := hP.sub (ws' := [(mo, .inr (4, [.int 0, .ref m1, .ref m2, .ref m3, .ref m4, .int mn])), (m1, .inl (cI, 12, .inl hf))]) [0, 1] rfl
      have hD9 := hD.sub (ws' := [(mo, .inr (4, [.int 0, .ref m1, .ref m2, .ref m3, .ref m4, .int mn])), (m1, .inl (cI, 12, .inl hf))]) [0, 1] (by decide) rfl
      exact W.iret (v := 0) hx hb hr (fun t ht hW => ⟨⟨0, (), rfl, (n_ap3 c_28 c_36), by rw [ht]; exact hP9, va_K.moved hW.alike hK, hD9⟩, hS.F ht⟩) hS.2.2 dX2_apart_44
    · refine lv_iconst (v := 1) hx hb dX2_apart_39 (by decide) ?_
      refine lv_goto (tgt := 44) hx hb dX2_apart_40 (by decide) ?_
      have hP9 := hP.sub (ws' := [(mo, .inr (4, [.int 0, .ref m1, .ref m2, .ref m3, .ref m4, .int mn])), (m1, .inl (cI, 12, .inl hf))]) [0, 1] rfl
      have hD9 := hD.sub (ws' := [(mo, .inr (4, [.int 0, .ref m1, .ref m2, .ref m3, .ref m4, .int mn])), (m1, .inl (cI, 12, .inl hf))]) [0, 1] (by decide) rfl
      exact W.iret (v := 1) hx hb hr (fun t ht hW => ⟨⟨1, (), rfl, (n_ap2 c_28 c_36), by rw [ht]; exact hP9, va_K.moved hW.alike hK, hD9⟩, hS.F ht⟩) hS.2.2 dX2_apart_44
  · refine lv_iconst (v := -1) hx hb dX2_apart_31 (by decide) ?_
    refine lv_goto (tgt := 44) hx hb dX2_apart_32 (by decide) ?_
    have hP9 := hP.sub (ws' := [(mo, .inr (4, [.int 0, .ref m1, .ref m2, .ref m3, .ref m4, .int mn])), (m1, .inl (cI, 12, .inl hf))]) [0, 1] rfl
    have hD9 := hD.sub (ws' := [(mo, .inr (4, [.int 0, .ref m1, .ref m2, .ref m3, .ref m4, .int mn])), (m1, .inl (cI, 12, .inl hf))]) [0, 1] (by decide) rfl
    exact W.iret (v := -1) hx hb hr (fun t ht hW => ⟨⟨-1, (), rfl, (n_ap1 c_28), by rw [ht]; exact hP9, va_K.moved hW.alike hK, hD9⟩, hS.F ht⟩) hS.2.2 dX2_apart_44
set_option maxHeartbeats 4000000 in
set_option maxRecDepth 100000 in
theorem c_X2_apart_noP (l : Launch) (D : va_G) (cI : ClassId) (mo : Nat) (m1 : Nat) (m2 : Nat) (m3 : Nat) (m4 : Nat) (sz : Nat) (th : Int32) (mn : Int32) (hf : Nat → Int32) (i0 : Int32) (i1 : Int32) (gb : ¬ vp_in i0 12 ∨ ¬ vp_in i1 12) : Met l yX2_apart wsX2_apart ({ frames := 2, cells := 0, slots := 0, locals := 46 }) (va_Pc [.ref mo, .int i0, .int i1] (ny_pre D [(cI, .int)] [(mo, .inr (4, [.int th, .ref m1, .ref m2, .ref m3, .ref m4, .int mn])), (m1, .inl (cI, 12, .inl hf))] sz)) (va_Qi (fun (r : Int32) (u : Unit) => r = 0) (fun (u : Unit) t => ny_at D [(cI, .int)] (va_A [(mo, .inr (4, [.int th, .ref m1, .ref m2, .ref m3, .ref m4, .int mn])), (m1, .inl (cI, 12, .inl hf))] sz) [(mo, .inr (4, [.int 1, .ref m1, .ref m2, .ref m3, .ref m4, .int mn])), (m1, .inl (cI, 12, .inl hf))] t) (va_A [(mo, .inr (4, [.int th, .ref m1, .ref m2, .ref m3, .ref m4, .int mn])), (m1, .inl (cI, 12, .inl hf))] sz)) 0 0 (va_A [(mo, .inr (4, [.int th, .ref m1, .ref m2, .ref m3, .ref m4, .int mn])), (m1, .inl (cI, 12, .inl hf))] sz) := by
  refine Met.ofW (cc := cX2_apart) (maxL := 4) (ret := (some .int)) (by decide) rfl ?_
  intro p e s m args below meth c s₁ B hml hv
  obtain ⟨rfl, hsz, hP, hK, hD0, hE⟩ := hv
  have hx := B.exec
  have hb := B.bytes
  have hr := B.returns
  have hts := atoms_spec (ws := wsX2_apart) B.pre
  have hown : s.vm.findClass RX2 = some m.cls := findClass_of_methodNamed B.named
  have hlocks := B.notSynchronized
  subst hsz
  have hD := hD0.self (sz := s.heap.size)
  generalize hAe : va_A [(mo, .inr (4, [.int th, .ref m1, .ref m2, .ref m3, .ref m4, .int mn])), (m1, .inl (cI, 12, .inl hf))] s.heap.size = A at hD hE ⊢
  have hA : ∀ q : Nat, s.heap.size ≤ q → A q := fun q h => by rw [← hAe]; exact Or.inr h
  have hS : va_S A s.heap s.heap [] := va_S.rf
  have hl := lv_entry ([.ref mo, .int i0, .int i1]) (n := 4) (Nat.le_of_ble_eq_true rfl)
  rw [lg_entry_eq]
  generalize (lg_sl ([.ref mo, .int i0, .int i1]) ++ List.replicate (4 - (lg_sl ([.ref mo, .int i0, .int i1])).length) Slot.unset).toArray = ls at hl ⊢
  have hl : lv_has ls 4 [(0, .ref mo), (1, .int i0), (2, .int i1)] := hl
  refine lv_aload_n hx hb dX2_apart_0 rfl (lv_at hl 0 rfl) ?_
  refine lv_iload_n hx hb dX2_apart_1 rfl (lv_at hl 1 rfl) ?_
  refine lv_iload_n hx hb dX2_apart_2 rfl (lv_at hl 1 rfl) ?_
  refine lv_iload_n hx hb dX2_apart_3 rfl (lv_at hl 1 rfl) ?_
  refine lv_iload_n hx hb dX2_apart_4 rfl (lv_at hl 2 rfl) ?_
  refine ny_i (wc := [(mo, .inr (4, [.int th, .ref m1, .ref m2, .ref m3, .ref m4, .int mn])), (m1, .inl (cI, 12, .inl hf))]) (wr := []) hP hD hS hA [0, 1] [] rfl rfl (by decide) (by decide) (va_runV (As := [.int i0, .int i0, .int i0, .int i1]) (rest := []) ⟨hx, hb, hml, hown, hts⟩ (c_X2_isBad_noP l D cI mo m1 m2 m3 m4 s.heap.size th mn hf i0 i0 i0 i1 (by rcases gb with h | h <;> simp [h])) (cwV 4 hts gX2_apart_X2_isBad rfl rfl rfl (by decide +kernel) ⟨Nat.le_of_ble_eq_true rfl, Nat.le_of_ble_eq_true rfl⟩) ⟨ny_blind, va_recv hK hP (ci := 4) (q0 := 0) rfl rfl, fun U hU hW => ⟨rfl, ny_preU hE hP hK hD hS hA [0, 1] rfl (by decide) rfl [0] rfl U hU hW⟩⟩ rfl rfl hl.1 rfl (lv_room (Nat.le_of_ble_eq_true rfl)) dX2_apart_5 ⟨Nat.le_of_ble_eq_true rfl, Nat.le_of_ble_eq_true rfl⟩) (fun r_5 u H locs hw_5 hP hD hS => ?_)
  have hP : va_P D vwCl [(mo, .inr (4, [.int 1, .ref m1, .ref m2, .ref m3, .ref m4, .int mn])), (m1, .inl (cI, 12, .inl hf))] H := hP
  have hD : va_D A [(mo, .inr (4, [.int 1, .ref m1, .ref m2, .ref m3, .ref m4, .int mn])), (m1, .inl (cI, 12, .inl hf))] := hD
  have hw_5 : r_5 = 1 := hw_5
  subst hw_5
  refine lv_if_eq (tgt := 13) hx hb dX2_apart_8 (by decide) (fun c_8 => absurd c_8 (show ¬ ((1 : Int32) = 0) by  decide)) (fun c_8 => ?_)
  refine lv_iconst (v := 0) hx hb dX2_apart_11 (by decide) ?_
  have hP9 := hP.sub (ws' := [(mo, .inr (4, [.int 1, .ref m1, .ref m2, .ref m3, .ref m4, .int mn])), (m1, .inl (cI, 12, .inl hf))]) [0, 1] rfl
  have hD9 := hD.sub (ws' := [(mo, .inr (4, [.int 1, .ref m1, .ref m2, .ref m3, .ref m4, .int mn])), (m1, .inl (cI, 12, .inl hf))]) [0, 1] (by decide) rfl
  exact W.iret (v := 0) hx hb hr (fun t ht hW => ⟨⟨0, (), rfl, (rfl), by rw [ht]; exact hP9, va_K.moved hW.alike hK, hD9⟩, hS.F ht⟩) hS.2.2 dX2_apart_12
set_option maxHeartbeats 4000000 in
set_option maxRecDepth 100000 in
theorem c_X2_apart_no0 (l : Launch) (D : va_G) (cI : ClassId) (mo : Nat) (m1 : Nat) (m2 : Nat) (m3 : Nat) (m4 : Nat) (sz : Nat) (th : Int32) (mn : Int32) (hf : Nat → Int32) (i0 : Int32) (i1 : Int32) (gp0 : vp_in i0 12) (gp1 : vp_in i1 12) (g0 : hf i1.toNatClampNeg = 0) : Met l yX2_apart wsX2_apart ({ frames := 2, cells := 0, slots := 0, locals := 46 }) (va_Pc [.ref mo, .int i0, .int i1] (ny_pre D [(cI, .int)] [(mo, .inr (4, [.int th, .ref m1, .ref m2, .ref m3, .ref m4, .int mn])), (m1, .inl (cI, 12, .inl hf))] sz)) (va_Qi (fun (r : Int32) (u : Unit) => r = 0) (fun (u : Unit) t => ny_at D [(cI, .int)] (va_A [(mo, .inr (4, [.int th, .ref m1, .ref m2, .ref m3, .ref m4, .int mn])), (m1, .inl (cI, 12, .inl hf))] sz) [(mo, .inr (4, [.int 2, .ref m1, .ref m2, .ref m3, .ref m4, .int mn])), (m1, .inl (cI, 12, .inl hf))] t) (va_A [(mo, .inr (4, [.int th, .ref m1, .ref m2, .ref m3, .ref m4, .int mn])), (m1, .inl (cI, 12, .inl hf))] sz)) 0 0 (va_A [(mo, .inr (4, [.int th, .ref m1, .ref m2, .ref m3, .ref m4, .int mn])), (m1, .inl (cI, 12, .inl hf))] sz) := by
  refine Met.ofW (cc := cX2_apart) (maxL := 4) (ret := (some .int)) (by decide) rfl ?_
  intro p e s m args below meth c s₁ B hml hv
  obtain ⟨rfl, hsz, hP, hK, hD0, hE⟩ := hv
  have hx := B.exec
  have hb := B.bytes
  have hr := B.returns
  have hts := atoms_spec (ws := wsX2_apart) B.pre
  have hown : s.vm.findClass RX2 = some m.cls := findClass_of_methodNamed B.named
  have hlocks := B.notSynchronized
  subst hsz
  have hD := hD0.self (sz := s.heap.size)
  generalize hAe : va_A [(mo, .inr (4, [.int th, .ref m1, .ref m2, .ref m3, .ref m4, .int mn])), (m1, .inl (cI, 12, .inl hf))] s.heap.size = A at hD hE ⊢
  have hA : ∀ q : Nat, s.heap.size ≤ q → A q := fun q h => by rw [← hAe]; exact Or.inr h
  have hS : va_S A s.heap s.heap [] := va_S.rf
  have hl := lv_entry ([.ref mo, .int i0, .int i1]) (n := 4) (Nat.le_of_ble_eq_true rfl)
  rw [lg_entry_eq]
  generalize (lg_sl ([.ref mo, .int i0, .int i1]) ++ List.replicate (4 - (lg_sl ([.ref mo, .int i0, .int i1])).length) Slot.unset).toArray = ls at hl ⊢
  have hl : lv_has ls 4 [(0, .ref mo), (1, .int i0), (2, .int i1)] := hl
  refine lv_aload_n hx hb dX2_apart_0 rfl (lv_at hl 0 rfl) ?_
  refine lv_iload_n hx hb dX2_apart_1 rfl (lv_at hl 1 rfl) ?_
  refine lv_iload_n hx hb dX2_apart_2 rfl (lv_at hl 1 rfl) ?_
  refine lv_iload_n hx hb dX2_apart_3 rfl (lv_at hl 1 rfl) ?_
  refine lv_iload_n hx hb dX2_apart_4 rfl (lv_at hl 2 rfl) ?_
  refine ny_i (wc := [(mo, .inr (4, [.int th, .ref m1, .ref m2, .ref m3, .ref m4, .int mn])), (m1, .inl (cI, 12, .inl hf))]) (wr := []) hP hD hS hA [0, 1] [] rfl rfl (by decide) (by decide) (va_runV (As := [.int i0, .int i0, .int i0, .int i1]) (rest := []) ⟨hx, hb, hml, hown, hts⟩ (c_X2_isBad_no0 l D cI mo m1 m2 m3 m4 s.heap.size th mn hf i0 i0 i0 i1 (by assumption) (by assumption) (by assumption) (by assumption) (by assumption)) (cwV 4 hts gX2_apart_X2_isBad rfl rfl rfl (by decide +kernel) ⟨Nat.le_of_ble_eq_true rfl, Nat.le_of_ble_eq_true rfl⟩) ⟨ny_blind, va_recv hK hP (ci := 4) (q0 := 0) rfl rfl, fun U hU hW => ⟨rfl, ny_preU hE hP hK hD hS hA [0, 1] rfl (by decide) rfl [0] rfl U hU hW⟩⟩ rfl rfl hl.1 rfl (lv_room (Nat.le_of_ble_eq_true rfl)) dX2_apart_5 ⟨Nat.le_of_ble_eq_true rfl, Nat.le_of_ble_eq_true rfl⟩) (fun r_5 u H locs hw_5 hP hD hS => ?_)
  have hP : va_P D vwCl [(mo, .inr (4, [.int 2, .ref m1, .ref m2, .ref m3, .ref m4, .int mn])), (m1, .inl (cI, 12, .inl hf))] H := hP
  have hD : va_D A [(mo, .inr (4, [.int 2, .ref m1, .ref m2, .ref m3, .ref m4, .int mn])), (m1, .inl (cI, 12, .inl hf))] := hD
  have hw_5 : r_5 = 1 := hw_5
  subst hw_5
  refine lv_if_eq (tgt := 13) hx hb dX2_apart_8 (by decide) (fun c_8 => absurd c_8 (show ¬ ((1 : Int32) = 0) by  decide)) (fun c_8 => ?_)
  refine lv_iconst (v := 0) hx hb dX2_apart_11 (by decide) ?_
  have hP9 := hP.sub (ws' := [(mo, .inr (4, [.int 2, .ref m1, .ref m2, .ref m3, .ref m4, .int mn])), (m1, .inl (cI, 12, .inl hf))]) [0, 1] rfl
  have hD9 := hD.sub (ws' := [(mo, .inr (4, [.int 2, .ref m1, .ref m2, .ref m3, .ref m4, .int mn])), (m1, .inl (cI, 12, .inl hf))]) [0, 1] (by decide) rfl
  exact W.iret (v := 0) hx hb hr (fun t ht hW => ⟨⟨0, (), rfl, (rfl), by rw [ht]; exact hP9, va_K.moved hW.alike hK, hD9⟩, hS.F ht⟩) hS.2.2 dX2_apart_12
theorem in_X2_residue_X2 : ∀ w ∈ wsX20, w ∈ wsX2_residue := (fun _ h => List.mem_cons_of_mem _ (List.mem_append_left _ (List.mem_append_left _ (List.mem_append_right _ h))))
set_option maxHeartbeats 4000000 in
set_option maxRecDepth 100000 in
theorem c_X2_residue (l : Launch) (D : va_G) (cI : ClassId) (cZ : ClassId) (mo : Nat) (m1 : Nat) (m2 : Nat) (m3 : Nat) (m4 : Nat) (sz : Nat) (th : Int32) (mn : Int32) (hf : Nat → Int32) (bf : Nat → Int32) (i0 : Int32) (i1 : Int32) (i2 : Int32) (gp0 : vp_in i0 12) (gp1 : vp_in i1 12) (gp2 : vp_in i2 12) (g0 : ¬ hf i2.toNatClampNeg = 0) (gH : ny_H hf) : Met l yX2_residue wsX2_residue ({ frames := 3, cells := 0, slots := 0, locals := 70 }) (va_Pc [.ref mo, .int i0, .int i1, .int i2] (ny_pre D [(cI, .int), (cZ, .boolean)] [(mo, .inr (4, [.int th, .ref m1, .ref m2, .ref m3, .ref m4, .int mn])), (m1, .inl (cI, 12, .inl hf)), (m2, .inl (cZ, 12, .inl bf))] sz)) (va_Ql (fun (r : Int64) (u : Unit) => r = f_bt (f_rs ((hf i1.toNatClampNeg).toInt64) (hf i2.toNatClampNeg)) 0) (fun (u : Unit) t => ny_at D [(cI, .int), (cZ, .boolean)] (va_A [(mo, .inr (4, [.int th, .ref m1, .ref m2, .ref m3, .ref m4, .int mn])), (m1, .inl (cI, 12, .inl hf)), (m2, .inl (cZ, 12, .inl bf))] sz) [(mo, .inr (4, [.int 0, .ref m1, .ref m2, .ref m3, .ref m4, .int mn])), (m1, .inl (cI, 12, .inl (upd hf i0.toNatClampNeg (f_rs ((hf i1.toNatClampNeg).toInt64) (hf i2.toNatClampNeg))))), (m2, .inl (cZ, 12, .inl (upd bf i0.toNatClampNeg 0)))] t) (va_A [(mo, .inr (4, [.int th, .ref m1, .ref m2, .ref m3, .ref m4, .int mn])), (m1, .inl (cI, 12, .inl hf)), (m2, .inl (cZ, 12, .inl bf))] sz)) 0 0 (va_A [(mo, .inr (4, [.int th, .ref m1, .ref m2, .ref m3, .ref m4, .int mn])), (m1, .inl (cI, 12, .inl hf)), (m2, .inl (cZ, 12, .inl bf))] sz) := by
  refine Met.ofW (cc := cX2_residue) (maxL := 4) (ret := (some .long)) (by decide) rfl ?_
  intro p e s m args below meth c s₁ B hml hv
  obtain ⟨rfl, hsz, hP, hK, hD0, hE⟩ := hv
  have hx := B.exec
  have hb := B.bytes
  have hr := B.returns
  have hts := atoms_spec (ws := wsX2_residue) B.pre
  have hown : s.vm.findClass RX2 = some m.cls := findClass_of_methodNamed B.named
  have hlocks := B.notSynchronized
  subst hsz
  have hD := hD0.self (sz := s.heap.size)
  generalize hAe : va_A [(mo, .inr (4, [.int th, .ref m1, .ref m2, .ref m3, .ref m4, .int mn])), (m1, .inl (cI, 12, .inl hf)), (m2, .inl (cZ, 12, .inl bf))] s.heap.size = A at hD hE ⊢
  have hA : ∀ q : Nat, s.heap.size ≤ q → A q := fun q h => by rw [← hAe]; exact Or.inr h
  have hS : va_S A s.heap s.heap [] := va_S.rf
  have hl := lv_entry ([.ref mo, .int i0, .int i1, .int i2]) (n := 4) (Nat.le_of_ble_eq_true rfl)
  rw [lg_entry_eq]
  generalize (lg_sl ([.ref mo, .int i0, .int i1, .int i2]) ++ List.replicate (4 - (lg_sl ([.ref mo, .int i0, .int i1, .int i2])).length) Slot.unset).toArray = ls at hl ⊢
  have hl : lv_has ls 4 [(0, .ref mo), (1, .int i0), (2, .int i1), (3, .int i2)] := hl
  refine lv_aload_n hx hb dX2_residue_0 rfl (lv_at hl 0 rfl) ?_
  refine lv_iload_n hx hb dX2_residue_1 rfl (lv_at hl 1 rfl) ?_
  refine lv_iload_n hx hb dX2_residue_2 rfl (lv_at hl 2 rfl) ?_
  refine lv_iload_n hx hb dX2_residue_3 rfl (lv_at hl 2 rfl) ?_
  refine lv_iload_n hx hb dX2_residue_4 rfl (lv_at hl 3 rfl) ?_
  refine ny_i (wc := [(mo, .inr (4, [.int th, .ref m1, .ref m2, .ref m3, .ref m4, .int mn])), (m1, .inl (cI, 12, .inl hf))]) (wr := [(m2, .inl (cZ, 12, .inl bf))]) hP hD hS hA [0, 1] [2] rfl rfl (by decide) (by decide) (va_runV (As := [.int i0, .int i1, .int i1, .int i2]) (rest := []) ⟨hx, hb, hml, hown, hts⟩ (c_X2_isBad l D cI mo m1 m2 m3 m4 s.heap.size th mn hf i0 i1 i1 i2 (by assumption) (by assumption) (by assumption) (by assumption) (by assumption)) (cwV 4 hts gX2_residue_X2_isBad rfl rfl rfl (by decide +kernel) ⟨Nat.le_of_ble_eq_true rfl, Nat.le_of_ble_eq_true rfl⟩) ⟨ny_blind, va_recv hK hP (ci := 4) (q0 := 0) rfl rfl, fun U hU hW => ⟨rfl, ny_preU hE hP hK hD hS hA [0, 1] rfl (by decide) rfl [0] rfl U hU hW⟩⟩ rfl rfl hl.1 rfl (lv_room (Nat.le_of_ble_eq_true rfl)) dX2_residue_5 ⟨Nat.le_of_ble_eq_true rfl, Nat.le_of_ble_eq_true rfl⟩) (fun r_5 u H locs hw_5 hP hD hS => ?_)
  have hP : va_P D vwCl [(m2, .inl (cZ, 12, .inl bf)), (mo, .inr (4, [.int 0, .ref m1, .ref m2, .ref m3, .ref m4, .int mn])), (m1, .inl (cI, 12, .inl hf))] H := hP
  have hD : va_D A [(m2, .inl (cZ, 12, .inl bf)), (mo, .inr (4, [.int 0, .ref m1, .ref m2, .ref m3, .ref m4, .int mn])), (m1, .inl (cI, 12, .inl hf))] := hD
  have hw_5 : r_5 = 0 := hw_5
  subst hw_5
  refine lv_if_eq (tgt := 15) hx hb dX2_residue_8 (by decide) (fun c_8 => ?_) (fun c_8 => absurd (show (0 : Int32) = 0 by  decide) c_8)
  refine lv_aload_n hx hb dX2_residue_15 rfl (lv_at hl 0 rfl) ?_
  refine lv_iload_n hx hb dX2_residue_16 rfl (lv_at hl 1 rfl) ?_
  refine lv_aload_n hx hb dX2_residue_17 rfl (lv_at hl 0 rfl) ?_
  refine va_get (D := D) (ci := 4) (v := .ref m1) (C := RX2) (T := TX2) (N := 6) hx hb hts in_X2_residue_X2 hown hK hP 1 rfl rfl 1 (by decide) (hts (.fieldLink RX2 7 "NearestclockModel" "eighths" "[I") (List.mem_of_getElem? (i := 1) rfl)) (fun _ h9 => h9) rfl dX2_residue_18 ?_
  refine lv_iload_n hx hb dX2_residue_21 rfl (lv_at hl 2 rfl) ?_
  refine va_iald hx hb hK hP 2 0 rfl rfl (by assumption) dX2_residue_22 ?_
  refine lv_i2l hx hb dX2_residue_23 rfl ?_
  refine lv_aload_n hx hb dX2_residue_24 rfl (lv_at hl 0 rfl) ?_
  refine va_get (D := D) (ci := 4) (v := .ref m1) (C := RX2) (T := TX2) (N := 6) hx hb hts in_X2_residue_X2 hown hK hP 1 rfl rfl 1 (by decide) (hts (.fieldLink RX2 7 "NearestclockModel" "eighths" "[I") (List.mem_of_getElem? (i := 1) rfl)) (fun _ h9 => h9) rfl dX2_residue_25 ?_
  refine lv_iload_n hx hb dX2_residue_28 rfl (lv_at hl 3 rfl) ?_
  refine va_iald hx hb hK hP 2 0 rfl rfl (by assumption) dX2_residue_29 ?_
  refine vp_callSi (va_Run.run (va_runS (As := [.long ((hf i1.toNatClampNeg).toInt64), .int (hf i2.toNatClampNeg)]) (rest := [.int i0, .ref mo]) ⟨hx, hb, hml, hown, hts⟩ (c_X2_residueOf l ((hf i1.toNatClampNeg).toInt64) (hf i2.toNatClampNeg) (gH _ (n_ix gp2)) (by assumption) (n_lb _)) (va_cwS 2 hts gX2_residue_X2_residueOf rfl rfl rfl (by decide +kernel) ⟨Nat.le_of_ble_eq_true rfl, Nat.le_of_ble_eq_true rfl⟩) ⟨ny_blindT, fun U hU hW => ⟨rfl, trivial⟩⟩ rfl rfl hl.1 rfl (lv_room (Nat.le_of_ble_eq_true rfl)) dX2_residue_30 ⟨Nat.le_of_ble_eq_true rfl, Nat.le_of_ble_eq_true rfl⟩)) (fun r_30 hw_30 => ?_)
  have hw_30 : r_30 = f_rs ((hf i1.toNatClampNeg).toInt64) (hf i2.toNatClampNeg) := hw_30
  subst hw_30
  refine lv_iconst (v := 0) hx hb dX2_residue_33 (by decide) ?_
  refine ny_l (wc := [(mo, .inr (4, [.int 0, .ref m1, .ref m2, .ref m3, .ref m4, .int mn])), (m1, .inl (cI, 12, .inl hf)), (m2, .inl (cZ, 12, .inl bf))]) (wr := []) hP hD hS hA [1, 2, 0] [] rfl rfl (by decide) (by decide) (va_runV (As := [.int i0, .int (f_rs ((hf i1.toNatClampNeg).toInt64) (hf i2.toNatClampNeg)), .int 0]) (rest := []) ⟨hx, hb, hml, hown, hts⟩ (c_X2_lays l D cI cZ mo m1 m2 m3 m4 H.size 0 mn hf bf i0 (f_rs ((hf i1.toNatClampNeg).toInt64) (hf i2.toNatClampNeg)) 0 (by assumption) (ny_R_rs (gH _ (n_ix gp2)) g0) (Or.inl rfl)) (cwV 3 hts gX2_residue_X2_lays rfl rfl rfl (by decide +kernel) ⟨Nat.le_of_ble_eq_true rfl, Nat.le_of_ble_eq_true rfl⟩) ⟨ny_blind, va_recv hK hP (ci := 4) (q0 := 1) rfl rfl, fun U hU hW => ⟨rfl, ny_preU hE hP hK hD hS hA [1, 2, 0] rfl (by decide) rfl [0, 1] rfl U hU hW⟩⟩ rfl rfl hl.1 rfl (lv_room (Nat.le_of_ble_eq_true rfl)) dX2_residue_34 ⟨Nat.le_of_ble_eq_true rfl, Nat.le_of_ble_eq_true rfl⟩) (fun r_34 u H locs hw_34 hP hD hS => ?_)
  have hP : va_P D vwCl [(mo, .inr (4, [.int 0, .ref m1, .ref m2, .ref m3, .ref m4, .int mn])), (m1, .inl (cI, 12, .inl (upd hf i0.toNatClampNeg (f_rs ((hf i1.toNatClampNeg).toInt64) (hf i2.toNatClampNeg))))), (m2, .inl (cZ, 12, .inl (upd bf i0.toNatClampNeg (f_z (f_rs ((hf i1.toNatClampNeg).toInt64) (hf i2.toNatClampNeg)) 0))))] H := hP
  have hD : va_D A [(mo, .inr (4, [.int 0, .ref m1, .ref m2, .ref m3, .ref m4, .int mn])), (m1, .inl (cI, 12, .inl (upd hf i0.toNatClampNeg (f_rs ((hf i1.toNatClampNeg).toInt64) (hf i2.toNatClampNeg))))), (m2, .inl (cZ, 12, .inl (upd bf i0.toNatClampNeg (f_z (f_rs ((hf i1.toNatClampNeg).toInt64) (hf i2.toNatClampNeg)) 0))))] := hD
  have hw_34 : r_34 = f_bt (f_rs ((hf i1.toNatClampNeg).toInt64) (hf i2.toNatClampNeg)) 0 := hw_34
  subst hw_34
  have hP9 := hP.sub (ws' := [(mo, .inr (4, [.int 0, .ref m1, .ref m2, .ref m3, .ref m4, .int mn])), (m1, .inl (cI, 12, .inl (upd hf i0.toNatClampNeg (f_rs ((hf i1.toNatClampNeg).toInt64) (hf i2.toNatClampNeg))))), (m2, .inl (cZ, 12, .inl (upd bf i0.toNatClampNeg (f_z (f_rs ((hf i1.toNatClampNeg).toInt64) (hf i2.toNatClampNeg)) 0))))]) [0, 1, 2] rfl
  have hD9 := hD.sub (ws' := [(mo, .inr (4, [.int 0, .ref m1, .ref m2, .ref m3, .ref m4, .int mn])), (m1, .inl (cI, 12, .inl (upd hf i0.toNatClampNeg (f_rs ((hf i1.toNatClampNeg).toInt64) (hf i2.toNatClampNeg))))), (m2, .inl (cZ, 12, .inl (upd bf i0.toNatClampNeg (f_z (f_rs ((hf i1.toNatClampNeg).toInt64) (hf i2.toNatClampNeg)) 0))))]) [0, 1, 2] (by decide) rfl
  rw [f_z_0] at hP9 hD9
  exact W.lret (v := f_bt (f_rs ((hf i1.toNatClampNeg).toInt64) (hf i2.toNatClampNeg)) 0) hx hb hr (fun t ht hW => ⟨⟨f_bt (f_rs ((hf i1.toNatClampNeg).toInt64) (hf i2.toNatClampNeg)) 0, (), rfl, (rfl), by rw [ht]; exact hP9, va_K.moved hW.alike hK, hD9⟩, hS.F ht⟩) hS.2.2 dX2_residue_37
set_option maxHeartbeats 4000000 in
set_option maxRecDepth 100000 in
theorem c_X2_residue_noP (l : Launch) (D : va_G) (cI : ClassId) (cZ : ClassId) (mo : Nat) (m1 : Nat) (m2 : Nat) (m3 : Nat) (m4 : Nat) (sz : Nat) (th : Int32) (mn : Int32) (hf : Nat → Int32) (bf : Nat → Int32) (i0 : Int32) (i1 : Int32) (i2 : Int32) (gb : ¬ vp_in i0 12 ∨ (¬ vp_in i1 12 ∨ ¬ vp_in i2 12)) : Met l yX2_residue wsX2_residue ({ frames := 2, cells := 0, slots := 0, locals := 46 }) (va_Pc [.ref mo, .int i0, .int i1, .int i2] (ny_pre D [(cI, .int), (cZ, .boolean)] [(mo, .inr (4, [.int th, .ref m1, .ref m2, .ref m3, .ref m4, .int mn])), (m1, .inl (cI, 12, .inl hf)), (m2, .inl (cZ, 12, .inl bf))] sz)) (va_Ql (fun (r : Int64) (u : Unit) => r = 0) (fun (u : Unit) t => ny_at D [(cI, .int), (cZ, .boolean)] (va_A [(mo, .inr (4, [.int th, .ref m1, .ref m2, .ref m3, .ref m4, .int mn])), (m1, .inl (cI, 12, .inl hf)), (m2, .inl (cZ, 12, .inl bf))] sz) [(mo, .inr (4, [.int 1, .ref m1, .ref m2, .ref m3, .ref m4, .int mn])), (m1, .inl (cI, 12, .inl hf)), (m2, .inl (cZ, 12, .inl bf))] t) (va_A [(mo, .inr (4, [.int th, .ref m1, .ref m2, .ref m3, .ref m4, .int mn])), (m1, .inl (cI, 12, .inl hf)), (m2, .inl (cZ, 12, .inl bf))] sz)) 0 0 (va_A [(mo, .inr (4, [.int th, .ref m1, .ref m2, .ref m3, .ref m4, .int mn])), (m1, .inl (cI, 12, .inl hf)), (m2, .inl (cZ, 12, .inl bf))] sz) := by
  refine Met.ofW (cc := cX2_residue) (maxL := 4) (ret := (some .long)) (by decide) rfl ?_
  intro p e s m args below meth c s₁ B hml hv
  obtain ⟨rfl, hsz, hP, hK, hD0, hE⟩ := hv
  have hx := B.exec
  have hb := B.bytes
  have hr := B.returns
  have hts := atoms_spec (ws := wsX2_residue) B.pre
  have hown : s.vm.findClass RX2 = some m.cls := findClass_of_methodNamed B.named
  have hlocks := B.notSynchronized
  subst hsz
  have hD := hD0.self (sz := s.heap.size)
  generalize hAe : va_A [(mo, .inr (4, [.int th, .ref m1, .ref m2, .ref m3, .ref m4, .int mn])), (m1, .inl (cI, 12, .inl hf)), (m2, .inl (cZ, 12, .inl bf))] s.heap.size = A at hD hE ⊢
  have hA : ∀ q : Nat, s.heap.size ≤ q → A q := fun q h => by rw [← hAe]; exact Or.inr h
  have hS : va_S A s.heap s.heap [] := va_S.rf
  have hl := lv_entry ([.ref mo, .int i0, .int i1, .int i2]) (n := 4) (Nat.le_of_ble_eq_true rfl)
  rw [lg_entry_eq]
  generalize (lg_sl ([.ref mo, .int i0, .int i1, .int i2]) ++ List.replicate (4 - (lg_sl ([.ref mo, .int i0, .int i1, .int i2])).length) Slot.unset).toArray = ls at hl ⊢
  have hl : lv_has ls 4 [(0, .ref mo), (1, .int i0), (2, .int i1), (3, .int i2)] := hl
  refine lv_aload_n hx hb dX2_residue_0 rfl (lv_at hl 0 rfl) ?_
  refine lv_iload_n hx hb dX2_residue_1 rfl (lv_at hl 1 rfl) ?_
  refine lv_iload_n hx hb dX2_residue_2 rfl (lv_at hl 2 rfl) ?_
  refine lv_iload_n hx hb dX2_residue_3 rfl (lv_at hl 2 rfl) ?_
  refine lv_iload_n hx hb dX2_residue_4 rfl (lv_at hl 3 rfl) ?_
  refine ny_i (wc := [(mo, .inr (4, [.int th, .ref m1, .ref m2, .ref m3, .ref m4, .int mn])), (m1, .inl (cI, 12, .inl hf))]) (wr := [(m2, .inl (cZ, 12, .inl bf))]) hP hD hS hA [0, 1] [2] rfl rfl (by decide) (by decide) (va_runV (As := [.int i0, .int i1, .int i1, .int i2]) (rest := []) ⟨hx, hb, hml, hown, hts⟩ (c_X2_isBad_noP l D cI mo m1 m2 m3 m4 s.heap.size th mn hf i0 i1 i1 i2 (by rcases gb with h | h | h <;> simp [h])) (cwV 4 hts gX2_residue_X2_isBad rfl rfl rfl (by decide +kernel) ⟨Nat.le_of_ble_eq_true rfl, Nat.le_of_ble_eq_true rfl⟩) ⟨ny_blind, va_recv hK hP (ci := 4) (q0 := 0) rfl rfl, fun U hU hW => ⟨rfl, ny_preU hE hP hK hD hS hA [0, 1] rfl (by decide) rfl [0] rfl U hU hW⟩⟩ rfl rfl hl.1 rfl (lv_room (Nat.le_of_ble_eq_true rfl)) dX2_residue_5 ⟨Nat.le_of_ble_eq_true rfl, Nat.le_of_ble_eq_true rfl⟩) (fun r_5 u H locs hw_5 hP hD hS => ?_)
  have hP : va_P D vwCl [(m2, .inl (cZ, 12, .inl bf)), (mo, .inr (4, [.int 1, .ref m1, .ref m2, .ref m3, .ref m4, .int mn])), (m1, .inl (cI, 12, .inl hf))] H := hP
  have hD : va_D A [(m2, .inl (cZ, 12, .inl bf)), (mo, .inr (4, [.int 1, .ref m1, .ref m2, .ref m3, .ref m4, .int mn])), (m1, .inl (cI, 12, .inl hf))] := hD
  have hw_5 : r_5 = 1 := hw_5
  subst hw_5
  refine lv_if_eq (tgt := 15) hx hb dX2_residue_8 (by decide) (fun c_8 => absurd c_8 (show ¬ ((1 : Int32) = 0) by  decide)) (fun c_8 => ?_)
  refine lv_lconst (v := 0) hx hb dX2_residue_11 (by decide) ?_
  refine lv_goto (tgt := 37) hx hb dX2_residue_12 (by decide) ?_
  have hP9 := hP.sub (ws' := [(mo, .inr (4, [.int 1, .ref m1, .ref m2, .ref m3, .ref m4, .int mn])), (m1, .inl (cI, 12, .inl hf)), (m2, .inl (cZ, 12, .inl bf))]) [1, 2, 0] rfl
  have hD9 := hD.sub (ws' := [(mo, .inr (4, [.int 1, .ref m1, .ref m2, .ref m3, .ref m4, .int mn])), (m1, .inl (cI, 12, .inl hf)), (m2, .inl (cZ, 12, .inl bf))]) [1, 2, 0] (by decide) rfl
  exact W.lret (v := 0) hx hb hr (fun t ht hW => ⟨⟨0, (), rfl, (rfl), by rw [ht]; exact hP9, va_K.moved hW.alike hK, hD9⟩, hS.F ht⟩) hS.2.2 dX2_residue_37
set_option maxHeartbeats 4000000 in
set_option maxRecDepth 100000 in
theorem c_X2_residue_no0 (l : Launch) (D : va_G) (cI : ClassId) (cZ : ClassId) (mo : Nat) (m1 : Nat) (m2 : Nat) (m3 : Nat) (m4 : Nat) (sz : Nat) (th : Int32) (mn : Int32) (hf : Nat → Int32) (bf : Nat → Int32) (i0 : Int32) (i1 : Int32) (i2 : Int32) (gp0 : vp_in i0 12) (gp1 : vp_in i1 12) (gp2 : vp_in i2 12) (g0 : hf i2.toNatClampNeg = 0) : Met l yX2_residue wsX2_residue ({ frames := 2, cells := 0, slots := 0, locals := 46 }) (va_Pc [.ref mo, .int i0, .int i1, .int i2] (ny_pre D [(cI, .int), (cZ, .boolean)] [(mo, .inr (4, [.int th, .ref m1, .ref m2, .ref m3, .ref m4, .int mn])), (m1, .inl (cI, 12, .inl hf)), (m2, .inl (cZ, 12, .inl bf))] sz)) (va_Ql (fun (r : Int64) (u : Unit) => r = 0) (fun (u : Unit) t => ny_at D [(cI, .int), (cZ, .boolean)] (va_A [(mo, .inr (4, [.int th, .ref m1, .ref m2, .ref m3, .ref m4, .int mn])), (m1, .inl (cI, 12, .inl hf)), (m2, .inl (cZ, 12, .inl bf))] sz) [(mo, .inr (4, [.int 2, .ref m1, .ref m2, .ref m3, .ref m4, .int mn])), (m1, .inl (cI, 12, .inl hf)), (m2, .inl (cZ, 12, .inl bf))] t) (va_A [(mo, .inr (4, [.int th, .ref m1, .ref m2, .ref m3, .ref m4, .int mn])), (m1, .inl (cI, 12, .inl hf)), (m2, .inl (cZ, 12, .inl bf))] sz)) 0 0 (va_A [(mo, .inr (4, [.int th, .ref m1, .ref m2, .ref m3, .ref m4, .int mn])), (m1, .inl (cI, 12, .inl hf)), (m2, .inl (cZ, 12, .inl bf))] sz) := by
  refine Met.ofW (cc := cX2_residue) (maxL := 4) (ret := (some .long)) (by decide) rfl ?_
  intro p e s m args below meth c s₁ B hml hv
  obtain ⟨rfl, hsz, hP, hK, hD0, hE⟩ := hv
  have hx := B.exec
  have hb := B.bytes
  have hr := B.returns
  have hts := atoms_spec (ws := wsX2_residue) B.pre
  have hown : s.vm.findClass RX2 = some m.cls := findClass_of_methodNamed B.named
  have hlocks := B.notSynchronized
  subst hsz
  have hD := hD0.self (sz := s.heap.size)
  generalize hAe : va_A [(mo, .inr (4, [.int th, .ref m1, .ref m2, .ref m3, .ref m4, .int mn])), (m1, .inl (cI, 12, .inl hf)), (m2, .inl (cZ, 12, .inl bf))] s.heap.size = A at hD hE ⊢
  have hA : ∀ q : Nat, s.heap.size ≤ q → A q := fun q h => by rw [← hAe]; exact Or.inr h
  have hS : va_S A s.heap s.heap [] := va_S.rf
  have hl := lv_entry ([.ref mo, .int i0, .int i1, .int i2]) (n := 4) (Nat.le_of_ble_eq_true rfl)
  rw [lg_entry_eq]
  generalize (lg_sl ([.ref mo, .int i0, .int i1, .int i2]) ++ List.replicate (4 - (lg_sl ([.ref mo, .int i0, .int i1, .int i2])).length) Slot.unset).toArray = ls at hl ⊢
  have hl : lv_has ls 4 [(0, .ref mo), (1, .int i0), (2, .int i1), (3, .int i2)] := hl
  refine lv_aload_n hx hb dX2_residue_0 rfl (lv_at hl 0 rfl) ?_
  refine lv_iload_n hx hb dX2_residue_1 rfl (lv_at hl 1 rfl) ?_
  refine lv_iload_n hx hb dX2_residue_2 rfl (lv_at hl 2 rfl) ?_
  refine lv_iload_n hx hb dX2_residue_3 rfl (lv_at hl 2 rfl) ?_
  refine lv_iload_n hx hb dX2_residue_4 rfl (lv_at hl 3 rfl) ?_
  refine ny_i (wc := [(mo, .inr (4, [.int th, .ref m1, .ref m2, .ref m3, .ref m4, .int mn])), (m1, .inl (cI, 12, .inl hf))]) (wr := [(m2, .inl (cZ, 12, .inl bf))]) hP hD hS hA [0, 1] [2] rfl rfl (by decide) (by decide) (va_runV (As := [.int i0, .int i1, .int i1, .int i2]) (rest := []) ⟨hx, hb, hml, hown, hts⟩ (c_X2_isBad_no0 l D cI mo m1 m2 m3 m4 s.heap.size th mn hf i0 i1 i1 i2 (by assumption) (by assumption) (by assumption) (by assumption) (by assumption)) (cwV 4 hts gX2_residue_X2_isBad rfl rfl rfl (by decide +kernel) ⟨Nat.le_of_ble_eq_true rfl, Nat.le_of_ble_eq_true rfl⟩) ⟨ny_blind, va_recv hK hP (ci := 4) (q0 := 0) rfl rfl, fun U hU hW => ⟨rfl, ny_preU hE hP hK hD hS hA [0, 1] rfl (by decide) rfl [0] rfl U hU hW⟩⟩ rfl rfl hl.1 rfl (lv_room (Nat.le_of_ble_eq_true rfl)) dX2_residue_5 ⟨Nat.le_of_ble_eq_true rfl, Nat.le_of_ble_eq_true rfl⟩) (fun r_5 u H locs hw_5 hP hD hS => ?_)
  have hP : va_P D vwCl [(m2, .inl (cZ, 12, .inl bf)), (mo, .inr (4, [.int 2, .ref m1, .ref m2, .ref m3, .ref m4, .int mn])), (m1, .inl (cI, 12, .inl hf))] H := hP
  have hD : va_D A [(m2, .inl (cZ, 12, .inl bf)), (mo, .inr (4, [.int 2, .ref m1, .ref m2, .ref m3, .ref m4, .int mn])), (m1, .inl (cI, 12, .inl hf))] := hD
  have hw_5 : r_5 = 1 := hw_5
  subst hw_5
  refine lv_if_eq (tgt := 15) hx hb dX2_residue_8 (by decide) (fun c_8 => absurd c_8 (show ¬ ((1 : Int32) = 0) by  decide)) (fun c_8 => ?_)
  refine lv_lconst (v := 0) hx hb dX2_residue_11 (by decide) ?_
  refine lv_goto (tgt := 37) hx hb dX2_residue_12 (by decide) ?_
  have hP9 := hP.sub (ws' := [(mo, .inr (4, [.int 2, .ref m1, .ref m2, .ref m3, .ref m4, .int mn])), (m1, .inl (cI, 12, .inl hf)), (m2, .inl (cZ, 12, .inl bf))]) [1, 2, 0] rfl
  have hD9 := hD.sub (ws' := [(mo, .inr (4, [.int 2, .ref m1, .ref m2, .ref m3, .ref m4, .int mn])), (m1, .inl (cI, 12, .inl hf)), (m2, .inl (cZ, 12, .inl bf))]) [1, 2, 0] (by decide) rfl
  exact W.lret (v := 0) hx hb hr (fun t ht hW => ⟨⟨0, (), rfl, (rfl), by rw [ht]; exact hP9, va_K.moved hW.alike hK, hD9⟩, hS.F ht⟩) hS.2.2 dX2_residue_37
theorem in_X2_plus_X2 : ∀ w ∈ wsX20, w ∈ wsX2_plus := (fun _ h => List.mem_cons_of_mem _ (List.mem_append_left _ (List.mem_append_left _ (List.mem_append_right _ h))))
set_option maxHeartbeats 4000000 in
set_option maxRecDepth 100000 in
theorem c_X2_plus (l : Launch) (D : va_G) (cI : ClassId) (cZ : ClassId) (mo : Nat) (m1 : Nat) (m2 : Nat) (m3 : Nat) (m4 : Nat) (sz : Nat) (th : Int32) (mn : Int32) (hf : Nat → Int32) (bf : Nat → Int32) (i0 : Int32) (i1 : Int32) (i2 : Int32) (i3 : Int32) (gp0 : vp_in i0 12) (gp2 : vp_in i2 12) (gp1 : vp_in i1 12) (gp3 : vp_in i3 12) (g0 : ¬ hf i3.toNatClampNeg = 0) (gH : ny_H hf) : Met l yX2_plus wsX2_plus ({ frames := 3, cells := 0, slots := 0, locals := 70 }) (va_Pc [.ref mo, .int i0, .int i1, .int i2, .int i3] (ny_pre D [(cI, .int), (cZ, .boolean)] [(mo, .inr (4, [.int th, .ref m1, .ref m2, .ref m3, .ref m4, .int mn])), (m1, .inl (cI, 12, .inl hf)), (m2, .inl (cZ, 12, .inl bf))] sz)) (va_Ql (fun (r : Int64) (u : Unit) => r = f_bt (f_rs ((hf i1.toNatClampNeg + hf i2.toNatClampNeg).toInt64) (hf i3.toNatClampNeg)) 0) (fun (u : Unit) t => ny_at D [(cI, .int), (cZ, .boolean)] (va_A [(mo, .inr (4, [.int th, .ref m1, .ref m2, .ref m3, .ref m4, .int mn])), (m1, .inl (cI, 12, .inl hf)), (m2, .inl (cZ, 12, .inl bf))] sz) [(mo, .inr (4, [.int 0, .ref m1, .ref m2, .ref m3, .ref m4, .int mn])), (m1, .inl (cI, 12, .inl (upd hf i0.toNatClampNeg (f_rs ((hf i1.toNatClampNeg + hf i2.toNatClampNeg).toInt64) (hf i3.toNatClampNeg))))), (m2, .inl (cZ, 12, .inl (upd bf i0.toNatClampNeg 0)))] t) (va_A [(mo, .inr (4, [.int th, .ref m1, .ref m2, .ref m3, .ref m4, .int mn])), (m1, .inl (cI, 12, .inl hf)), (m2, .inl (cZ, 12, .inl bf))] sz)) 0 0 (va_A [(mo, .inr (4, [.int th, .ref m1, .ref m2, .ref m3, .ref m4, .int mn])), (m1, .inl (cI, 12, .inl hf)), (m2, .inl (cZ, 12, .inl bf))] sz) := by
  refine Met.ofW (cc := cX2_plus) (maxL := 5) (ret := (some .long)) (by decide) rfl ?_
  intro p e s m args below meth c s₁ B hml hv
  obtain ⟨rfl, hsz, hP, hK, hD0, hE⟩ := hv
  have hx := B.exec
  have hb := B.bytes
  have hr := B.returns
  have hts := atoms_spec (ws := wsX2_plus) B.pre
  have hown : s.vm.findClass RX2 = some m.cls := findClass_of_methodNamed B.named
  have hlocks := B.notSynchronized
  subst hsz
  have hD := hD0.self (sz := s.heap.size)
  generalize hAe : va_A [(mo, .inr (4, [.int th, .ref m1, .ref m2, .ref m3, .ref m4, .int mn])), (m1, .inl (cI, 12, .inl hf)), (m2, .inl (cZ, 12, .inl bf))] s.heap.size = A at hD hE ⊢
  have hA : ∀ q : Nat, s.heap.size ≤ q → A q := fun q h => by rw [← hAe]; exact Or.inr h
  have hS : va_S A s.heap s.heap [] := va_S.rf
  have hl := lv_entry ([.ref mo, .int i0, .int i1, .int i2, .int i3]) (n := 5) (Nat.le_of_ble_eq_true rfl)
  rw [lg_entry_eq]
  generalize (lg_sl ([.ref mo, .int i0, .int i1, .int i2, .int i3]) ++ List.replicate (5 - (lg_sl ([.ref mo, .int i0, .int i1, .int i2, .int i3])).length) Slot.unset).toArray = ls at hl ⊢
  have hl : lv_has ls 5 [(0, .ref mo), (1, .int i0), (2, .int i1), (3, .int i2), (4, .int i3)] := hl
  refine lv_aload_n hx hb dX2_plus_0 rfl (lv_at hl 0 rfl) ?_
  refine lv_iload_n hx hb dX2_plus_1 rfl (lv_at hl 1 rfl) ?_
  refine lv_iload_n hx hb dX2_plus_2 rfl (lv_at hl 2 rfl) ?_
  refine lv_iload_n hx hb dX2_plus_3 rfl (lv_at hl 3 rfl) ?_
  refine lv_iload hx hb dX2_plus_4 (lv_at hl 4 rfl) ?_
  refine ny_i (wc := [(mo, .inr (4, [.int th, .ref m1, .ref m2, .ref m3, .ref m4, .int mn])), (m1, .inl (cI, 12, .inl hf))]) (wr := [(m2, .inl (cZ, 12, .inl bf))]) hP hD hS hA [0, 1] [2] rfl rfl (by decide) (by decide) (va_runV (As := [.int i0, .int i1, .int i2, .int i3]) (rest := []) ⟨hx, hb, hml, hown, hts⟩ (c_X2_isBad l D cI mo m1 m2 m3 m4 s.heap.size th mn hf i0 i1 i2 i3 (by assumption) (by assumption) (by assumption) (by assumption) (by assumption)) (cwV 4 hts gX2_plus_X2_isBad rfl rfl rfl (by decide +kernel) ⟨Nat.le_of_ble_eq_true rfl, Nat.le_of_ble_eq_true rfl⟩) ⟨ny_blind, va_recv hK hP (ci := 4) (q0 := 0) rfl rfl, fun U hU hW => ⟨rfl, ny_preU hE hP hK hD hS hA [0, 1] rfl (by decide) rfl [0] rfl U hU hW⟩⟩ rfl rfl hl.1 rfl (lv_room (Nat.le_of_ble_eq_true rfl)) dX2_plus_6 ⟨Nat.le_of_ble_eq_true rfl, Nat.le_of_ble_eq_true rfl⟩) (fun r_6 u H locs hw_6 hP hD hS => ?_)
  have hP : va_P D vwCl [(m2, .inl (cZ, 12, .inl bf)), (mo, .inr (4, [.int 0, .ref m1, .ref m2, .ref m3, .ref m4, .int mn])), (m1, .inl (cI, 12, .inl hf))] H := hP
  have hD : va_D A [(m2, .inl (cZ, 12, .inl bf)), (mo, .inr (4, [.int 0, .ref m1, .ref m2, .ref m3, .ref m4, .int mn])), (m1, .inl (cI, 12, .inl hf))] := hD
  have hw_6 : r_6 = 0 := hw_6
  subst hw_6
  refine lv_if_eq (tgt := 16) hx hb dX2_plus_9 (by decide) (fun c_9 => ?_) (fun c_9 => absurd (show (0 : Int32) = 0 by  decide) c_9)
  refine lv_aload_n hx hb dX2_plus_16 rfl (lv_at hl 0 rfl) ?_
  refine lv_iload_n hx hb dX2_plus_17 rfl (lv_at hl 1 rfl) ?_
  refine lv_aload_n hx hb dX2_plus_18 rfl (lv_at hl 0 rfl) ?_
  refine va_get (D := D) (ci := 4) (v := .ref m1) (C := RX2) (T := TX2) (N := 6) hx hb hts in_X2_plus_X2 hown hK hP 1 rfl rfl 1 (by decide) (hts (.fieldLink RX2 7 "NearestclockModel" "eighths" "[I") (List.mem_of_getElem? (i := 1) rfl)) (fun _ h9 => h9) rfl dX2_plus_19 ?_
  refine lv_iload_n hx hb dX2_plus_22 rfl (lv_at hl 2 rfl) ?_
  refine va_iald hx hb hK hP 2 0 rfl rfl (by assumption) dX2_plus_23 ?_
  refine lv_i2l hx hb dX2_plus_24 rfl ?_
  refine lv_aload_n hx hb dX2_plus_25 rfl (lv_at hl 0 rfl) ?_
  refine va_get (D := D) (ci := 4) (v := .ref m1) (C := RX2) (T := TX2) (N := 6) hx hb hts in_X2_plus_X2 hown hK hP 1 rfl rfl 1 (by decide) (hts (.fieldLink RX2 7 "NearestclockModel" "eighths" "[I") (List.mem_of_getElem? (i := 1) rfl)) (fun _ h9 => h9) rfl dX2_plus_26 ?_
  refine lv_iload_n hx hb dX2_plus_29 rfl (lv_at hl 3 rfl) ?_
  refine va_iald hx hb hK hP 2 0 rfl rfl (by assumption) dX2_plus_30 ?_
  refine lv_i2l hx hb dX2_plus_31 rfl ?_
  refine lv_ladd hx hb dX2_plus_32 ?_
  refine ny_tl (x2 := (hf i1.toNatClampNeg + hf i2.toNatClampNeg).toInt64) (n_wadd (gH _ (n_ix gp1)) (gH _ (n_ix gp2))) ?_
  refine lv_aload_n hx hb dX2_plus_33 rfl (lv_at hl 0 rfl) ?_
  refine va_get (D := D) (ci := 4) (v := .ref m1) (C := RX2) (T := TX2) (N := 6) hx hb hts in_X2_plus_X2 hown hK hP 1 rfl rfl 1 (by decide) (hts (.fieldLink RX2 7 "NearestclockModel" "eighths" "[I") (List.mem_of_getElem? (i := 1) rfl)) (fun _ h9 => h9) rfl dX2_plus_34 ?_
  refine lv_iload hx hb dX2_plus_37 (lv_at hl 4 rfl) ?_
  refine va_iald hx hb hK hP 2 0 rfl rfl (by assumption) dX2_plus_39 ?_
  refine vp_callSi (va_Run.run (va_runS (As := [.long ((hf i1.toNatClampNeg + hf i2.toNatClampNeg).toInt64), .int (hf i3.toNatClampNeg)]) (rest := [.int i0, .ref mo]) ⟨hx, hb, hml, hown, hts⟩ (c_X2_residueOf l ((hf i1.toNatClampNeg + hf i2.toNatClampNeg).toInt64) (hf i3.toNatClampNeg) (gH _ (n_ix gp3)) (by assumption) (n_lb _)) (va_cwS 2 hts gX2_plus_X2_residueOf rfl rfl rfl (by decide +kernel) ⟨Nat.le_of_ble_eq_true rfl, Nat.le_of_ble_eq_true rfl⟩) ⟨ny_blindT, fun U hU hW => ⟨rfl, trivial⟩⟩ rfl rfl hl.1 rfl (lv_room (Nat.le_of_ble_eq_true rfl)) dX2_plus_40 ⟨Nat.le_of_ble_eq_true rfl, Nat.le_of_ble_eq_true rfl⟩)) (fun r_40 hw_40 => ?_)
  have hw_40 : r_40 = f_rs ((hf i1.toNatClampNeg + hf i2.toNatClampNeg).toInt64) (hf i3.toNatClampNeg) := hw_40
  subst hw_40
  refine lv_iconst (v := 0) hx hb dX2_plus_43 (by decide) ?_
  refine ny_l (wc := [(mo, .inr (4, [.int 0, .ref m1, .ref m2, .ref m3, .ref m4, .int mn])), (m1, .inl (cI, 12, .inl hf)), (m2, .inl (cZ, 12, .inl bf))]) (wr := []) hP hD hS hA [1, 2, 0] [] rfl rfl (by decide) (by decide) (va_runV (As := [.int i0, .int (f_rs ((hf i1.toNatClampNeg + hf i2.toNatClampNeg).toInt64) (hf i3.toNatClampNeg)), .int 0]) (rest := []) ⟨hx, hb, hml, hown, hts⟩ (c_X2_lays l D cI cZ mo m1 m2 m3 m4 H.size 0 mn hf bf i0 (f_rs ((hf i1.toNatClampNeg + hf i2.toNatClampNeg).toInt64) (hf i3.toNatClampNeg)) 0 (by assumption) (ny_R_rs (gH _ (n_ix gp3)) g0) (Or.inl rfl)) (cwV 3 hts gX2_plus_X2_lays rfl rfl rfl (by decide +kernel) ⟨Nat.le_of_ble_eq_true rfl, Nat.le_of_ble_eq_true rfl⟩) ⟨ny_blind, va_recv hK hP (ci := 4) (q0 := 1) rfl rfl, fun U hU hW => ⟨rfl, ny_preU hE hP hK hD hS hA [1, 2, 0] rfl (by decide) rfl [0, 1] rfl U hU hW⟩⟩ rfl rfl hl.1 rfl (lv_room (Nat.le_of_ble_eq_true rfl)) dX2_plus_44 ⟨Nat.le_of_ble_eq_true rfl, Nat.le_of_ble_eq_true rfl⟩) (fun r_44 u H locs hw_44 hP hD hS => ?_)
  have hP : va_P D vwCl [(mo, .inr (4, [.int 0, .ref m1, .ref m2, .ref m3, .ref m4, .int mn])), (m1, .inl (cI, 12, .inl (upd hf i0.toNatClampNeg (f_rs ((hf i1.toNatClampNeg + hf i2.toNatClampNeg).toInt64) (hf i3.toNatClampNeg))))), (m2, .inl (cZ, 12, .inl (upd bf i0.toNatClampNeg (f_z (f_rs ((hf i1.toNatClampNeg + hf i2.toNatClampNeg).toInt64) (hf i3.toNatClampNeg)) 0))))] H := hP
  have hD : va_D A [(mo, .inr (4, [.int 0, .ref m1, .ref m2, .ref m3, .ref m4, .int mn])), (m1, .inl (cI, 12, .inl (upd hf i0.toNatClampNeg (f_rs ((hf i1.toNatClampNeg + hf i2.toNatClampNeg).toInt64) (hf i3.toNatClampNeg))))), (m2, .inl (cZ, 12, .inl (upd bf i0.toNatClampNeg (f_z (f_rs ((hf i1.toNatClampNeg + hf i2.toNatClampNeg).toInt64) (hf i3.toNatClampNeg)) 0))))] := hD
  have hw_44 : r_44 = f_bt (f_rs ((hf i1.toNatClampNeg + hf i2.toNatClampNeg).toInt64) (hf i3.toNatClampNeg)) 0 := hw_44
  subst hw_44
  have hP9 := hP.sub (ws' := [(mo, .inr (4, [.int 0, .ref m1, .ref m2, .ref m3, .ref m4, .int mn])), (m1, .inl (cI, 12, .inl (upd hf i0.toNatClampNeg (f_rs ((hf i1.toNatClampNeg + hf i2.toNatClampNeg).toInt64) (hf i3.toNatClampNeg))))), (m2, .inl (cZ, 12, .inl (upd bf i0.toNatClampNeg (f_z (f_rs ((hf i1.toNatClampNeg + hf i2.toNatClampNeg).toInt64) (hf i3.toNatClampNeg)) 0))))]) [0, 1, 2] rfl
  have hD9 := hD.sub (ws' := [(mo, .inr (4, [.int 0, .ref m1, .ref m2, .ref m3, .ref m4, .int mn])), (m1, .inl (cI, 12, .inl (upd hf i0.toNatClampNeg (f_rs ((hf i1.toNatClampNeg + hf i2.toNatClampNeg).toInt64) (hf i3.toNatClampNeg))))), (m2, .inl (cZ, 12, .inl (upd bf i0.toNatClampNeg (f_z (f_rs ((hf i1.toNatClampNeg + hf i2.toNatClampNeg).toInt64) (hf i3.toNatClampNeg)) 0))))]) [0, 1, 2] (by decide) rfl
  rw [f_z_0] at hP9 hD9
  exact W.lret (v := f_bt (f_rs ((hf i1.toNatClampNeg + hf i2.toNatClampNeg).toInt64) (hf i3.toNatClampNeg)) 0) hx hb hr (fun t ht hW => ⟨⟨f_bt (f_rs ((hf i1.toNatClampNeg + hf i2.toNatClampNeg).toInt64) (hf i3.toNatClampNeg)) 0, (), rfl, (rfl), by rw [ht]; exact hP9, va_K.moved hW.alike hK, hD9⟩, hS.F ht⟩) hS.2.2 dX2_plus_47
set_option maxHeartbeats 4000000 in
set_option maxRecDepth 100000 in
theorem c_X2_plus_noP (l : Launch) (D : va_G) (cI : ClassId) (cZ : ClassId) (mo : Nat) (m1 : Nat) (m2 : Nat) (m3 : Nat) (m4 : Nat) (sz : Nat) (th : Int32) (mn : Int32) (hf : Nat → Int32) (bf : Nat → Int32) (i0 : Int32) (i1 : Int32) (i2 : Int32) (i3 : Int32) (gb : ¬ vp_in i0 12 ∨ (¬ vp_in i2 12 ∨ (¬ vp_in i1 12 ∨ ¬ vp_in i3 12))) : Met l yX2_plus wsX2_plus ({ frames := 2, cells := 0, slots := 0, locals := 46 }) (va_Pc [.ref mo, .int i0, .int i1, .int i2, .int i3] (ny_pre D [(cI, .int), (cZ, .boolean)] [(mo, .inr (4, [.int th, .ref m1, .ref m2, .ref m3, .ref m4, .int mn])), (m1, .inl (cI, 12, .inl hf)), (m2, .inl (cZ, 12, .inl bf))] sz)) (va_Ql (fun (r : Int64) (u : Unit) => r = 0) (fun (u : Unit) t => ny_at D [(cI, .int), (cZ, .boolean)] (va_A [(mo, .inr (4, [.int th, .ref m1, .ref m2, .ref m3, .ref m4, .int mn])), (m1, .inl (cI, 12, .inl hf)), (m2, .inl (cZ, 12, .inl bf))] sz) [(mo, .inr (4, [.int 1, .ref m1, .ref m2, .ref m3, .ref m4, .int mn])), (m1, .inl (cI, 12, .inl hf)), (m2, .inl (cZ, 12, .inl bf))] t) (va_A [(mo, .inr (4, [.int th, .ref m1, .ref m2, .ref m3, .ref m4, .int mn])), (m1, .inl (cI, 12, .inl hf)), (m2, .inl (cZ, 12, .inl bf))] sz)) 0 0 (va_A [(mo, .inr (4, [.int th, .ref m1, .ref m2, .ref m3, .ref m4, .int mn])), (m1, .inl (cI, 12, .inl hf)), (m2, .inl (cZ, 12, .inl bf))] sz) := by
  refine Met.ofW (cc := cX2_plus) (maxL := 5) (ret := (some .long)) (by decide) rfl ?_
  intro p e s m args below meth c s₁ B hml hv
  obtain ⟨rfl, hsz, hP, hK, hD0, hE⟩ := hv
  have hx := B.exec
  have hb := B.bytes
  have hr := B.returns
  have hts := atoms_spec (ws := wsX2_plus) B.pre
  have hown : s.vm.findClass RX2 = some m.cls := findClass_of_methodNamed B.named
  have hlocks := B.notSynchronized
  subst hsz
  have hD := hD0.self (sz := s.heap.size)
  generalize hAe : va_A [(mo, .inr (4, [.int th, .ref m1, .ref m2, .ref m3, .ref m4, .int mn])), (m1, .inl (cI, 12, .inl hf)), (m2, .inl (cZ, 12, .inl bf))] s.heap.size = A at hD hE ⊢
  have hA : ∀ q : Nat, s.heap.size ≤ q → A q := fun q h => by rw [← hAe]; exact Or.inr h
  have hS : va_S A s.heap s.heap [] := va_S.rf
  have hl := lv_entry ([.ref mo, .int i0, .int i1, .int i2, .int i3]) (n := 5) (Nat.le_of_ble_eq_true rfl)
  rw [lg_entry_eq]
  generalize (lg_sl ([.ref mo, .int i0, .int i1, .int i2, .int i3]) ++ List.replicate (5 - (lg_sl ([.ref mo, .int i0, .int i1, .int i2, .int i3])).length) Slot.unset).toArray = ls at hl ⊢
  have hl : lv_has ls 5 [(0, .ref mo), (1, .int i0), (2, .int i1), (3, .int i2), (4, .int i3)] := hl
  refine lv_aload_n hx hb dX2_plus_0 rfl (lv_at hl 0 rfl) ?_
  refine lv_iload_n hx hb dX2_plus_1 rfl (lv_at hl 1 rfl) ?_
  refine lv_iload_n hx hb dX2_plus_2 rfl (lv_at hl 2 rfl) ?_
  refine lv_iload_n hx hb dX2_plus_3 rfl (lv_at hl 3 rfl) ?_
  refine lv_iload hx hb dX2_plus_4 (lv_at hl 4 rfl) ?_
  refine ny_i (wc := [(mo, .inr (4, [.int th, .ref m1, .ref m2, .ref m3, .ref m4, .int mn])), (m1, .inl (cI, 12, .inl hf))]) (wr := [(m2, .inl (cZ, 12, .inl bf))]) hP hD hS hA [0, 1] [2] rfl rfl (by decide) (by decide) (va_runV (As := [.int i0, .int i1, .int i2, .int i3]) (rest := []) ⟨hx, hb, hml, hown, hts⟩ (c_X2_isBad_noP l D cI mo m1 m2 m3 m4 s.heap.size th mn hf i0 i1 i2 i3 (by rcases gb with h | h | h | h <;> simp [h])) (cwV 4 hts gX2_plus_X2_isBad rfl rfl rfl (by decide +kernel) ⟨Nat.le_of_ble_eq_true rfl, Nat.le_of_ble_eq_true rfl⟩) ⟨ny_blind, va_recv hK hP (ci := 4) (q0 := 0) rfl rfl, fun U hU hW => ⟨rfl, ny_preU hE hP hK hD hS hA [0, 1] rfl (by decide) rfl [0] rfl U hU hW⟩⟩ rfl rfl hl.1 rfl (lv_room (Nat.le_of_ble_eq_true rfl)) dX2_plus_6 ⟨Nat.le_of_ble_eq_true rfl, Nat.le_of_ble_eq_true rfl⟩) (fun r_6 u H locs hw_6 hP hD hS => ?_)
  have hP : va_P D vwCl [(m2, .inl (cZ, 12, .inl bf)), (mo, .inr (4, [.int 1, .ref m1, .ref m2, .ref m3, .ref m4, .int mn])), (m1, .inl (cI, 12, .inl hf))] H := hP
  have hD : va_D A [(m2, .inl (cZ, 12, .inl bf)), (mo, .inr (4, [.int 1, .ref m1, .ref m2, .ref m3, .ref m4, .int mn])), (m1, .inl (cI, 12, .inl hf))] := hD
  have hw_6 : r_6 = 1 := hw_6
  subst hw_6
  refine lv_if_eq (tgt := 16) hx hb dX2_plus_9 (by decide) (fun c_9 => absurd c_9 (show ¬ ((1 : Int32) = 0) by  decide)) (fun c_9 => ?_)
  refine lv_lconst (v := 0) hx hb dX2_plus_12 (by decide) ?_
  refine lv_goto (tgt := 47) hx hb dX2_plus_13 (by decide) ?_
  have hP9 := hP.sub (ws' := [(mo, .inr (4, [.int 1, .ref m1, .ref m2, .ref m3, .ref m4, .int mn])), (m1, .inl (cI, 12, .inl hf)), (m2, .inl (cZ, 12, .inl bf))]) [1, 2, 0] rfl
  have hD9 := hD.sub (ws' := [(mo, .inr (4, [.int 1, .ref m1, .ref m2, .ref m3, .ref m4, .int mn])), (m1, .inl (cI, 12, .inl hf)), (m2, .inl (cZ, 12, .inl bf))]) [1, 2, 0] (by decide) rfl
  exact W.lret (v := 0) hx hb hr (fun t ht hW => ⟨⟨0, (), rfl, (rfl), by rw [ht]; exact hP9, va_K.moved hW.alike hK, hD9⟩, hS.F ht⟩) hS.2.2 dX2_plus_47
set_option maxHeartbeats 4000000 in
set_option maxRecDepth 100000 in
theorem c_X2_plus_no0 (l : Launch) (D : va_G) (cI : ClassId) (cZ : ClassId) (mo : Nat) (m1 : Nat) (m2 : Nat) (m3 : Nat) (m4 : Nat) (sz : Nat) (th : Int32) (mn : Int32) (hf : Nat → Int32) (bf : Nat → Int32) (i0 : Int32) (i1 : Int32) (i2 : Int32) (i3 : Int32) (gp0 : vp_in i0 12) (gp2 : vp_in i2 12) (gp1 : vp_in i1 12) (gp3 : vp_in i3 12) (g0 : hf i3.toNatClampNeg = 0) : Met l yX2_plus wsX2_plus ({ frames := 2, cells := 0, slots := 0, locals := 46 }) (va_Pc [.ref mo, .int i0, .int i1, .int i2, .int i3] (ny_pre D [(cI, .int), (cZ, .boolean)] [(mo, .inr (4, [.int th, .ref m1, .ref m2, .ref m3, .ref m4, .int mn])), (m1, .inl (cI, 12, .inl hf)), (m2, .inl (cZ, 12, .inl bf))] sz)) (va_Ql (fun (r : Int64) (u : Unit) => r = 0) (fun (u : Unit) t => ny_at D [(cI, .int), (cZ, .boolean)] (va_A [(mo, .inr (4, [.int th, .ref m1, .ref m2, .ref m3, .ref m4, .int mn])), (m1, .inl (cI, 12, .inl hf)), (m2, .inl (cZ, 12, .inl bf))] sz) [(mo, .inr (4, [.int 2, .ref m1, .ref m2, .ref m3, .ref m4, .int mn])), (m1, .inl (cI, 12, .inl hf)), (m2, .inl (cZ, 12, .inl bf))] t) (va_A [(mo, .inr (4, [.int th, .ref m1, .ref m2, .ref m3, .ref m4, .int mn])), (m1, .inl (cI, 12, .inl hf)), (m2, .inl (cZ, 12, .inl bf))] sz)) 0 0 (va_A [(mo, .inr (4, [.int th, .ref m1, .ref m2, .ref m3, .ref m4, .int mn])), (m1, .inl (cI, 12, .inl hf)), (m2, .inl (cZ, 12, .inl bf))] sz) := by
  refine Met.ofW (cc := cX2_plus) (maxL := 5) (ret := (some .long)) (by decide) rfl ?_
  intro p e s m args below meth c s₁ B hml hv
  obtain ⟨rfl, hsz, hP, hK, hD0, hE⟩ := hv
  have hx := B.exec
  have hb := B.bytes
  have hr := B.returns
  have hts := atoms_spec (ws := wsX2_plus) B.pre
  have hown : s.vm.findClass RX2 = some m.cls := findClass_of_methodNamed B.named
  have hlocks := B.notSynchronized
  subst hsz
  have hD := hD0.self (sz := s.heap.size)
  generalize hAe : va_A [(mo, .inr (4, [.int th, .ref m1, .ref m2, .ref m3, .ref m4, .int mn])), (m1, .inl (cI, 12, .inl hf)), (m2, .inl (cZ, 12, .inl bf))] s.heap.size = A at hD hE ⊢
  have hA : ∀ q : Nat, s.heap.size ≤ q → A q := fun q h => by rw [← hAe]; exact Or.inr h
  have hS : va_S A s.heap s.heap [] := va_S.rf
  have hl := lv_entry ([.ref mo, .int i0, .int i1, .int i2, .int i3]) (n := 5) (Nat.le_of_ble_eq_true rfl)
  rw [lg_entry_eq]
  generalize (lg_sl ([.ref mo, .int i0, .int i1, .int i2, .int i3]) ++ List.replicate (5 - (lg_sl ([.ref mo, .int i0, .int i1, .int i2, .int i3])).length) Slot.unset).toArray = ls at hl ⊢
  have hl : lv_has ls 5 [(0, .ref mo), (1, .int i0), (2, .int i1), (3, .int i2), (4, .int i3)] := hl
  refine lv_aload_n hx hb dX2_plus_0 rfl (lv_at hl 0 rfl) ?_
  refine lv_iload_n hx hb dX2_plus_1 rfl (lv_at hl 1 rfl) ?_
  refine lv_iload_n hx hb dX2_plus_2 rfl (lv_at hl 2 rfl) ?_
  refine lv_iload_n hx hb dX2_plus_3 rfl (lv_at hl 3 rfl) ?_
  refine lv_iload hx hb dX2_plus_4 (lv_at hl 4 rfl) ?_
  refine ny_i (wc := [(mo, .inr (4, [.int th, .ref m1, .ref m2, .ref m3, .ref m4, .int mn])), (m1, .inl (cI, 12, .inl hf))]) (wr := [(m2, .inl (cZ, 12, .inl bf))]) hP hD hS hA [0, 1] [2] rfl rfl (by decide) (by decide) (va_runV (As := [.int i0, .int i1, .int i2, .int i3]) (rest := []) ⟨hx, hb, hml, hown, hts⟩ (c_X2_isBad_no0 l D cI mo m1 m2 m3 m4 s.heap.size th mn hf i0 i1 i2 i3 (by assumption) (by assumption) (by assumption) (by assumption) (by assumption)) (cwV 4 hts gX2_plus_X2_isBad rfl rfl rfl (by decide +kernel) ⟨Nat.le_of_ble_eq_true rfl, Nat.le_of_ble_eq_true rfl⟩) ⟨ny_blind, va_recv hK hP (ci := 4) (q0 := 0) rfl rfl, fun U hU hW => ⟨rfl, ny_preU hE hP hK hD hS hA [0, 1] rfl (by decide) rfl [0] rfl U hU hW⟩⟩ rfl rfl hl.1 rfl (lv_room (Nat.le_of_ble_eq_true rfl)) dX2_plus_6 ⟨Nat.le_of_ble_eq_true rfl, Nat.le_of_ble_eq_true rfl⟩) (fun r_6 u H locs hw_6 hP hD hS => ?_)
  have hP : va_P D vwCl [(m2, .inl (cZ, 12, .inl bf)), (mo, .inr (4, [.int 2, .ref m1, .ref m2, .ref m3, .ref m4, .int mn])), (m1, .inl (cI, 12, .inl hf))] H := hP
  have hD : va_D A [(m2, .inl (cZ, 12, .inl bf)), (mo, .inr (4, [.int 2, .ref m1, .ref m2, .ref m3, .ref m4, .int mn])), (m1, .inl (cI, 12, .inl hf))] := hD
  have hw_6 : r_6 = 1 := hw_6
  subst hw_6
  refine lv_if_eq (tgt := 16) hx hb dX2_plus_9 (by decide) (fun c_9 => absurd c_9 (show ¬ ((1 : Int32) = 0) by  decide)) (fun c_9 => ?_)
  refine lv_lconst (v := 0) hx hb dX2_plus_12 (by decide) ?_
  refine lv_goto (tgt := 47) hx hb dX2_plus_13 (by decide) ?_
  have hP9 := hP.sub (ws' := [(mo, .inr (4, [.int 2, .ref m1, .ref m2, .ref m3, .ref m4, .int mn])), (m1, .inl (cI, 12, .inl hf)), (m2, .inl (cZ, 12, .inl bf))]) [1, 2, 0] rfl
  have hD9 := hD.sub (ws' := [(mo, .inr (4, [.int 2, .ref m1, .ref m2, .ref m3, .ref m4, .int mn])), (m1, .inl (cI, 12, .inl hf)), (m2, .inl (cZ, 12, .inl bf))]) [1, 2, 0] (by decide) rfl
  exact W.lret (v := 0) hx hb hr (fun t ht hW => ⟨⟨0, (), rfl, (rfl), by rw [ht]; exact hP9, va_K.moved hW.alike hK, hD9⟩, hS.F ht⟩) hS.2.2 dX2_plus_47
theorem in_X2_minus_X2 : ∀ w ∈ wsX20, w ∈ wsX2_minus := (fun _ h => List.mem_cons_of_mem _ (List.mem_append_left _ (List.mem_append_left _ (List.mem_append_right _ h))))
set_option maxHeartbeats 4000000 in
set_option maxRecDepth 100000 in
theorem c_X2_minus (l : Launch) (D : va_G) (cI : ClassId) (cZ : ClassId) (mo : Nat) (m1 : Nat) (m2 : Nat) (m3 : Nat) (m4 : Nat) (sz : Nat) (th : Int32) (mn : Int32) (hf : Nat → Int32) (bf : Nat → Int32) (i0 : Int32) (i1 : Int32) (i2 : Int32) (i3 : Int32) (gp0 : vp_in i0 12) (gp2 : vp_in i2 12) (gp1 : vp_in i1 12) (gp3 : vp_in i3 12) (g0 : ¬ hf i3.toNatClampNeg = 0) (gH : ny_H hf) : Met l yX2_minus wsX2_minus ({ frames := 3, cells := 0, slots := 0, locals := 70 }) (va_Pc [.ref mo, .int i0, .int i1, .int i2, .int i3] (ny_pre D [(cI, .int), (cZ, .boolean)] [(mo, .inr (4, [.int th, .ref m1, .ref m2, .ref m3, .ref m4, .int mn])), (m1, .inl (cI, 12, .inl hf)), (m2, .inl (cZ, 12, .inl bf))] sz)) (va_Ql (fun (r : Int64) (u : Unit) => r = f_bt (f_rs ((hf i1.toNatClampNeg - hf i2.toNatClampNeg).toInt64) (hf i3.toNatClampNeg)) 0) (fun (u : Unit) t => ny_at D [(cI, .int), (cZ, .boolean)] (va_A [(mo, .inr (4, [.int th, .ref m1, .ref m2, .ref m3, .ref m4, .int mn])), (m1, .inl (cI, 12, .inl hf)), (m2, .inl (cZ, 12, .inl bf))] sz) [(mo, .inr (4, [.int 0, .ref m1, .ref m2, .ref m3, .ref m4, .int mn])), (m1, .inl (cI, 12, .inl (upd hf i0.toNatClampNeg (f_rs ((hf i1.toNatClampNeg - hf i2.toNatClampNeg).toInt64) (hf i3.toNatClampNeg))))), (m2, .inl (cZ, 12, .inl (upd bf i0.toNatClampNeg 0)))] t) (va_A [(mo, .inr (4, [.int th, .ref m1, .ref m2, .ref m3, .ref m4, .int mn])), (m1, .inl (cI, 12, .inl hf)), (m2, .inl (cZ, 12, .inl bf))] sz)) 0 0 (va_A [(mo, .inr (4, [.int th, .ref m1, .ref m2, .ref m3, .ref m4, .int mn])), (m1, .inl (cI, 12, .inl hf)), (m2, .inl (cZ, 12, .inl bf))] sz) := by
  refine Met.ofW (cc := cX2_minus) (maxL := 5) (ret := (some .long)) (by decide) rfl ?_
  intro p e s m args below meth c s₁ B hml hv
  obtain ⟨rfl, hsz, hP, hK, hD0, hE⟩ := hv
  have hx := B.exec
  have hb := B.bytes
  have hr := B.returns
  have hts := atoms_spec (ws := wsX2_minus) B.pre
  have hown : s.vm.findClass RX2 = some m.cls := findClass_of_methodNamed B.named
  have hlocks := B.notSynchronized
  subst hsz
  have hD := hD0.self (sz := s.heap.size)
  generalize hAe : va_A [(mo, .inr (4, [.int th, .ref m1, .ref m2, .ref m3, .ref m4, .int mn])), (m1, .inl (cI, 12, .inl hf)), (m2, .inl (cZ, 12, .inl bf))] s.heap.size = A at hD hE ⊢
  have hA : ∀ q : Nat, s.heap.size ≤ q → A q := fun q h => by rw [← hAe]; exact Or.inr h
  have hS : va_S A s.heap s.heap [] := va_S.rf
  have hl := lv_entry ([.ref mo, .int i0, .int i1, .int i2, .int i3]) (n := 5) (Nat.le_of_ble_eq_true rfl)
  rw [lg_entry_eq]
  generalize (lg_sl ([.ref mo, .int i0, .int i1, .int i2, .int i3]) ++ List.replicate (5 - (lg_sl ([.ref mo, .int i0, .int i1, .int i2, .int i3])).length) Slot.unset).toArray = ls at hl ⊢
  have hl : lv_has ls 5 [(0, .ref mo), (1, .int i0), (2, .int i1), (3, .int i2), (4, .int i3)] := hl
  refine lv_aload_n hx hb dX2_minus_0 rfl (lv_at hl 0 rfl) ?_
  refine lv_iload_n hx hb dX2_minus_1 rfl (lv_at hl 1 rfl) ?_
  refine lv_iload_n hx hb dX2_minus_2 rfl (lv_at hl 2 rfl) ?_
  refine lv_iload_n hx hb dX2_minus_3 rfl (lv_at hl 3 rfl) ?_
  refine lv_iload hx hb dX2_minus_4 (lv_at hl 4 rfl) ?_
  refine ny_i (wc := [(mo, .inr (4, [.int th, .ref m1, .ref m2, .ref m3, .ref m4, .int mn])), (m1, .inl (cI, 12, .inl hf))]) (wr := [(m2, .inl (cZ, 12, .inl bf))]) hP hD hS hA [0, 1] [2] rfl rfl (by decide) (by decide) (va_runV (As := [.int i0, .int i1, .int i2, .int i3]) (rest := []) ⟨hx, hb, hml, hown, hts⟩ (c_X2_isBad l D cI mo m1 m2 m3 m4 s.heap.size th mn hf i0 i1 i2 i3 (by assumption) (by assumption) (by assumption) (by assumption) (by assumption)) (cwV 4 hts gX2_minus_X2_isBad rfl rfl rfl (by decide +kernel) ⟨Nat.le_of_ble_eq_true rfl, Nat.le_of_ble_eq_true rfl⟩) ⟨ny_blind, va_recv hK hP (ci := 4) (q0 := 0) rfl rfl, fun U hU hW => ⟨rfl, ny_preU hE hP hK hD hS hA [0, 1] rfl (by decide) rfl [0] rfl U hU hW⟩⟩ rfl rfl hl.1 rfl (lv_room (Nat.le_of_ble_eq_true rfl)) dX2_minus_6 ⟨Nat.le_of_ble_eq_true rfl, Nat.le_of_ble_eq_true rfl⟩) (fun r_6 u H locs hw_6 hP hD hS => ?_)
  have hP : va_P D vwCl [(m2, .inl (cZ, 12, .inl bf)), (mo, .inr (4, [.int 0, .ref m1, .ref m2, .ref m3, .ref m4, .int mn])), (m1, .inl (cI, 12, .inl hf))] H := hP
  have hD : va_D A [(m2, .inl (cZ, 12, .inl bf)), (mo, .inr (4, [.int 0, .ref m1, .ref m2, .ref m3, .ref m4, .int mn])), (m1, .inl (cI, 12, .inl hf))] := hD
  have hw_6 : r_6 = 0 := hw_6
  subst hw_6
  refine lv_if_eq (tgt := 16) hx hb dX2_minus_9 (by decide) (fun c_9 => ?_) (fun c_9 => absurd (show (0 : Int32) = 0 by  decide) c_9)
  refine lv_aload_n hx hb dX2_minus_16 rfl (lv_at hl 0 rfl) ?_
  refine lv_iload_n hx hb dX2_minus_17 rfl (lv_at hl 1 rfl) ?_
  refine lv_aload_n hx hb dX2_minus_18 rfl (lv_at hl 0 rfl) ?_
  refine va_get (D := D) (ci := 4) (v := .ref m1) (C := RX2) (T := TX2) (N := 6) hx hb hts in_X2_minus_X2 hown hK hP 1 rfl rfl 1 (by decide) (hts (.fieldLink RX2 7 "NearestclockModel" "eighths" "[I") (List.mem_of_getElem? (i := 1) rfl)) (fun _ h9 => h9) rfl dX2_minus_19 ?_
  refine lv_iload_n hx hb dX2_minus_22 rfl (lv_at hl 2 rfl) ?_
  refine va_iald hx hb hK hP 2 0 rfl rfl (by assumption) dX2_minus_23 ?_
  refine lv_i2l hx hb dX2_minus_24 rfl ?_
  refine lv_aload_n hx hb dX2_minus_25 rfl (lv_at hl 0 rfl) ?_
  refine va_get (D := D) (ci := 4) (v := .ref m1) (C := RX2) (T := TX2) (N := 6) hx hb hts in_X2_minus_X2 hown hK hP 1 rfl rfl 1 (by decide) (hts (.fieldLink RX2 7 "NearestclockModel" "eighths" "[I") (List.mem_of_getElem? (i := 1) rfl)) (fun _ h9 => h9) rfl dX2_minus_26 ?_
  refine lv_iload_n hx hb dX2_minus_29 rfl (lv_at hl 3 rfl) ?_
  refine va_iald hx hb hK hP 2 0 rfl rfl (by assumption) dX2_minus_30 ?_
  refine lv_i2l hx hb dX2_minus_31 rfl ?_
  refine lv_lsub hx hb dX2_minus_32 ?_
  refine ny_tl (x2 := (hf i1.toNatClampNeg - hf i2.toNatClampNeg).toInt64) (n_wsub (gH _ (n_ix gp1)) (gH _ (n_ix gp2))) ?_
  refine lv_aload_n hx hb dX2_minus_33 rfl (lv_at hl 0 rfl) ?_
  refine va_get (D := D) (ci := 4) (v := .ref m1) (C := RX2) (T := TX2) (N := 6) hx hb hts in_X2_minus_X2 hown hK hP 1 rfl rfl 1 (by decide) (hts (.fieldLink RX2 7 "NearestclockModel" "eighths" "[I") (List.mem_of_getElem? (i := 1) rfl)) (fun _ h9 => h9) rfl dX2_minus_34 ?_
  refine lv_iload hx hb dX2_minus_37 (lv_at hl 4 rfl) ?_
  refine va_iald hx hb hK hP 2 0 rfl rfl (by assumption) dX2_minus_39 ?_
  refine vp_callSi (va_Run.run (va_runS (As := [.long ((hf i1.toNatClampNeg - hf i2.toNatClampNeg).toInt64), .int (hf i3.toNatClampNeg)]) (rest := [.int i0, .ref mo]) ⟨hx, hb, hml, hown, hts⟩ (c_X2_residueOf l ((hf i1.toNatClampNeg - hf i2.toNatClampNeg).toInt64) (hf i3.toNatClampNeg) (gH _ (n_ix gp3)) (by assumption) (n_lb _)) (va_cwS 2 hts gX2_minus_X2_residueOf rfl rfl rfl (by decide +kernel) ⟨Nat.le_of_ble_eq_true rfl, Nat.le_of_ble_eq_true rfl⟩) ⟨ny_blindT, fun U hU hW => ⟨rfl, trivial⟩⟩ rfl rfl hl.1 rfl (lv_room (Nat.le_of_ble_eq_true rfl)) dX2_minus_40 ⟨Nat.le_of_ble_eq_true rfl, Nat.le_of_ble_eq_true rfl⟩)) (fun r_40 hw_40 => ?_)
  have hw_40 : r_40 = f_rs ((hf i1.toNatClampNeg - hf i2.toNatClampNeg).toInt64) (hf i3.toNatClampNeg) := hw_40
  subst hw_40
  refine lv_iconst (v := 0) hx hb dX2_minus_43 (by decide) ?_
  refine ny_l (wc := [(mo, .inr (4, [.int 0, .ref m1, .ref m2, .ref m3, .ref m4, .int mn])), (m1, .inl (cI, 12, .inl hf)), (m2, .inl (cZ, 12, .inl bf))]) (wr := []) hP hD hS hA [1, 2, 0] [] rfl rfl (by decide) (by decide) (va_runV (As := [.int i0, .int (f_rs ((hf i1.toNatClampNeg - hf i2.toNatClampNeg).toInt64) (hf i3.toNatClampNeg)), .int 0]) (rest := []) ⟨hx, hb, hml, hown, hts⟩ (c_X2_lays l D cI cZ mo m1 m2 m3 m4 H.size 0 mn hf bf i0 (f_rs ((hf i1.toNatClampNeg - hf i2.toNatClampNeg).toInt64) (hf i3.toNatClampNeg)) 0 (by assumption) (ny_R_rs (gH _ (n_ix gp3)) g0) (Or.inl rfl)) (cwV 3 hts gX2_minus_X2_lays rfl rfl rfl (by decide +kernel) ⟨Nat.le_of_ble_eq_true rfl, Nat.le_of_ble_eq_true rfl⟩) ⟨ny_blind, va_recv hK hP (ci := 4) (q0 := 1) rfl rfl, fun U hU hW => ⟨rfl, ny_preU hE hP hK hD hS hA [1, 2, 0] rfl (by decide) rfl [0, 1] rfl U hU hW⟩⟩ rfl rfl hl.1 rfl (lv_room (Nat.le_of_ble_eq_true rfl)) dX2_minus_44 ⟨Nat.le_of_ble_eq_true rfl, Nat.le_of_ble_eq_true rfl⟩) (fun r_44 u H locs hw_44 hP hD hS => ?_)
  have hP : va_P D vwCl [(mo, .inr (4, [.int 0, .ref m1, .ref m2, .ref m3, .ref m4, .int mn])), (m1, .inl (cI, 12, .inl (upd hf i0.toNatClampNeg (f_rs ((hf i1.toNatClampNeg - hf i2.toNatClampNeg).toInt64) (hf i3.toNatClampNeg))))), (m2, .inl (cZ, 12, .inl (upd bf i0.toNatClampNeg (f_z (f_rs ((hf i1.toNatClampNeg - hf i2.toNatClampNeg).toInt64) (hf i3.toNatClampNeg)) 0))))] H := hP
  have hD : va_D A [(mo, .inr (4, [.int 0, .ref m1, .ref m2, .ref m3, .ref m4, .int mn])), (m1, .inl (cI, 12, .inl (upd hf i0.toNatClampNeg (f_rs ((hf i1.toNatClampNeg - hf i2.toNatClampNeg).toInt64) (hf i3.toNatClampNeg))))), (m2, .inl (cZ, 12, .inl (upd bf i0.toNatClampNeg (f_z (f_rs ((hf i1.toNatClampNeg - hf i2.toNatClampNeg).toInt64) (hf i3.toNatClampNeg)) 0))))] := hD
  have hw_44 : r_44 = f_bt (f_rs ((hf i1.toNatClampNeg - hf i2.toNatClampNeg).toInt64) (hf i3.toNatClampNeg)) 0 := hw_44
  subst hw_44
  have hP9 := hP.sub (ws' := [(mo, .inr (4, [.int 0, .ref m1, .ref m2, .ref m3, .ref m4, .int mn])), (m1, .inl (cI, 12, .inl (upd hf i0.toNatClampNeg (f_rs ((hf i1.toNatClampNeg - hf i2.toNatClampNeg).toInt64) (hf i3.toNatClampNeg))))), (m2, .inl (cZ, 12, .inl (upd bf i0.toNatClampNeg (f_z (f_rs ((hf i1.toNatClampNeg - hf i2.toNatClampNeg).toInt64) (hf i3.toNatClampNeg)) 0))))]) [0, 1, 2] rfl
  have hD9 := hD.sub (ws' := [(mo, .inr (4, [.int 0, .ref m1, .ref m2, .ref m3, .ref m4, .int mn])), (m1, .inl (cI, 12, .inl (upd hf i0.toNatClampNeg (f_rs ((hf i1.toNatClampNeg - hf i2.toNatClampNeg).toInt64) (hf i3.toNatClampNeg))))), (m2, .inl (cZ, 12, .inl (upd bf i0.toNatClampNeg (f_z (f_rs ((hf i1.toNatClampNeg - hf i2.toNatClampNeg).toInt64) (hf i3.toNatClampNeg)) 0))))]) [0, 1, 2] (by decide) rfl
  rw [f_z_0] at hP9 hD9
  exact W.lret (v := f_bt (f_rs ((hf i1.toNatClampNeg - hf i2.toNatClampNeg).toInt64) (hf i3.toNatClampNeg)) 0) hx hb hr (fun t ht hW => ⟨⟨f_bt (f_rs ((hf i1.toNatClampNeg - hf i2.toNatClampNeg).toInt64) (hf i3.toNatClampNeg)) 0, (), rfl, (rfl), by rw [ht]; exact hP9, va_K.moved hW.alike hK, hD9⟩, hS.F ht⟩) hS.2.2 dX2_minus_47
set_option maxHeartbeats 4000000 in
set_option maxRecDepth 100000 in
theorem c_X2_minus_noP (l : Launch) (D : va_G) (cI : ClassId) (cZ : ClassId) (mo : Nat) (m1 : Nat) (m2 : Nat) (m3 : Nat) (m4 : Nat) (sz : Nat) (th : Int32) (mn : Int32) (hf : Nat → Int32) (bf : Nat → Int32) (i0 : Int32) (i1 : Int32) (i2 : Int32) (i3 : Int32) (gb : ¬ vp_in i0 12 ∨ (¬ vp_in i2 12 ∨ (¬ vp_in i1 12 ∨ ¬ vp_in i3 12))) : Met l yX2_minus wsX2_minus ({ frames := 2, cells := 0, slots := 0, locals := 46 }) (va_Pc [.ref mo, .int i0, .int i1, .int i2, .int i3] (ny_pre D [(cI, .int), (cZ, .boolean)] [(mo, .inr (4, [.int th, .ref m1, .ref m2, .ref m3, .ref m4, .int mn])), (m1, .inl (cI, 12, .inl hf)), (m2, .inl (cZ, 12, .inl bf))] sz)) (va_Ql (fun (r : Int64) (u : Unit) => r = 0) (fun (u : Unit) t => ny_at D [(cI, .int), (cZ, .boolean)] (va_A [(mo, .inr (4, [.int th, .ref m1, .ref m2, .ref m3, .ref m4, .int mn])), (m1, .inl (cI, 12, .inl hf)), (m2, .inl (cZ, 12, .inl bf))] sz) [(mo, .inr (4, [.int 1, .ref m1, .ref m2, .ref m3, .ref m4, .int mn])), (m1, .inl (cI, 12, .inl hf)), (m2, .inl (cZ, 12, .inl bf))] t) (va_A [(mo, .inr (4, [.int th, .ref m1, .ref m2, .ref m3, .ref m4, .int mn])), (m1, .inl (cI, 12, .inl hf)), (m2, .inl (cZ, 12, .inl bf))] sz)) 0 0 (va_A [(mo, .inr (4, [.int th, .ref m1, .ref m2, .ref m3, .ref m4, .int mn])), (m1, .inl (cI, 12, .inl hf)), (m2, .inl (cZ, 12, .inl bf))] sz) := by
  refine Met.ofW (cc := cX2_minus) (maxL := 5) (ret := (some .long)) (by decide) rfl ?_
  intro p e s m args below meth c s₁ B hml hv
  obtain ⟨rfl, hsz, hP, hK, hD0, hE⟩ := hv
  have hx := B.exec
  have hb := B.bytes
  have hr := B.returns
  have hts := atoms_spec (ws := wsX2_minus) B.pre
  have hown : s.vm.findClass RX2 = some m.cls := findClass_of_methodNamed B.named
  have hlocks := B.notSynchronized
  subst hsz
  have hD := hD0.self (sz := s.heap.size)
  generalize hAe : va_A [(mo, .inr (4, [.int th, .ref m1, .ref m2, .ref m3, .ref m4, .int mn])), (m1, .inl (cI, 12, .inl hf)), (m2, .inl (cZ, 12, .inl bf))] s.heap.size = A at hD hE ⊢
  have hA : ∀ q : Nat, s.heap.size ≤ q → A q := fun q h => by rw [← hAe]; exact Or.inr h
  have hS : va_S A s.heap s.heap [] := va_S.rf
  have hl := lv_entry ([.ref mo, .int i0, .int i1, .int i2, .int i3]) (n := 5) (Nat.le_of_ble_eq_true rfl)
  rw [lg_entry_eq]
  generalize (lg_sl ([.ref mo, .int i0, .int i1, .int i2, .int i3]) ++ List.replicate (5 - (lg_sl ([.ref mo, .int i0, .int i1, .int i2, .int i3])).length) Slot.unset).toArray = ls at hl ⊢
  have hl : lv_has ls 5 [(0, .ref mo), (1, .int i0), (2, .int i1), (3, .int i2), (4, .int i3)] := hl
  refine lv_aload_n hx hb dX2_minus_0 rfl (lv_at hl 0 rfl) ?_
  refine lv_iload_n hx hb dX2_minus_1 rfl (lv_at hl 1 rfl) ?_
  refine lv_iload_n hx hb dX2_minus_2 rfl (lv_at hl 2 rfl) ?_
  refine lv_iload_n hx hb dX2_minus_3 rfl (lv_at hl 3 rfl) ?_
  refine lv_iload hx hb dX2_minus_4 (lv_at hl 4 rfl) ?_
  refine ny_i (wc := [(mo, .inr (4, [.int th, .ref m1, .ref m2, .ref m3, .ref m4, .int mn])), (m1, .inl (cI, 12, .inl hf))]) (wr := [(m2, .inl (cZ, 12, .inl bf))]) hP hD hS hA [0, 1] [2] rfl rfl (by decide) (by decide) (va_runV (As := [.int i0, .int i1, .int i2, .int i3]) (rest := []) ⟨hx, hb, hml, hown, hts⟩ (c_X2_isBad_noP l D cI mo m1 m2 m3 m4 s.heap.size th mn hf i0 i1 i2 i3 (by rcases gb with h | h | h | h <;> simp [h])) (cwV 4 hts gX2_minus_X2_isBad rfl rfl rfl (by decide +kernel) ⟨Nat.le_of_ble_eq_true rfl, Nat.le_of_ble_eq_true rfl⟩) ⟨ny_blind, va_recv hK hP (ci := 4) (q0 := 0) rfl rfl, fun U hU hW => ⟨rfl, ny_preU hE hP hK hD hS hA [0, 1] rfl (by decide) rfl [0] rfl U hU hW⟩⟩ rfl rfl hl.1 rfl (lv_room (Nat.le_of_ble_eq_true rfl)) dX2_minus_6 ⟨Nat.le_of_ble_eq_true rfl, Nat.le_of_ble_eq_true rfl⟩) (fun r_6 u H locs hw_6 hP hD hS => ?_)
  have hP : va_P D vwCl [(m2, .inl (cZ, 12, .inl bf)), (mo, .inr (4, [.int 1, .ref m1, .ref m2, .ref m3, .ref m4, .int mn])), (m1, .inl (cI, 12, .inl hf))] H := hP
  have hD : va_D A [(m2, .inl (cZ, 12, .inl bf)), (mo, .inr (4, [.int 1, .ref m1, .ref m2, .ref m3, .ref m4, .int mn])), (m1, .inl (cI, 12, .inl hf))] := hD
  have hw_6 : r_6 = 1 := hw_6
  subst hw_6
  refine lv_if_eq (tgt := 16) hx hb dX2_minus_9 (by decide) (fun c_9 => absurd c_9 (show ¬ ((1 : Int32) = 0) by  decide)) (fun c_9 => ?_)
  refine lv_lconst (v := 0) hx hb dX2_minus_12 (by decide) ?_
  refine lv_goto (tgt := 47) hx hb dX2_minus_13 (by decide) ?_
  have hP9 := hP.sub (ws' := [(mo, .inr (4, [.int 1, .ref m1, .ref m2, .ref m3, .ref m4, .int mn])), (m1, .inl (cI, 12, .inl hf)), (m2, .inl (cZ, 12, .inl bf))]) [1, 2, 0] rfl
  have hD9 := hD.sub (ws' := [(mo, .inr (4, [.int 1, .ref m1, .ref m2, .ref m3, .ref m4, .int mn])), (m1, .inl (cI, 12, .inl hf)), (m2, .inl (cZ, 12, .inl bf))]) [1, 2, 0] (by decide) rfl
  exact W.lret (v := 0) hx hb hr (fun t ht hW => ⟨⟨0, (), rfl, (rfl), by rw [ht]; exact hP9, va_K.moved hW.alike hK, hD9⟩, hS.F ht⟩) hS.2.2 dX2_minus_47
set_option maxHeartbeats 4000000 in
set_option maxRecDepth 100000 in
theorem c_X2_minus_no0 (l : Launch) (D : va_G) (cI : ClassId) (cZ : ClassId) (mo : Nat) (m1 : Nat) (m2 : Nat) (m3 : Nat) (m4 : Nat) (sz : Nat) (th : Int32) (mn : Int32) (hf : Nat → Int32) (bf : Nat → Int32) (i0 : Int32) (i1 : Int32) (i2 : Int32) (i3 : Int32) (gp0 : vp_in i0 12) (gp2 : vp_in i2 12) (gp1 : vp_in i1 12) (gp3 : vp_in i3 12) (g0 : hf i3.toNatClampNeg = 0) : Met l yX2_minus wsX2_minus ({ frames := 2, cells := 0, slots := 0, locals := 46 }) (va_Pc [.ref mo, .int i0, .int i1, .int i2, .int i3] (ny_pre D [(cI, .int), (cZ, .boolean)] [(mo, .inr (4, [.int th, .ref m1, .ref m2, .ref m3, .ref m4, .int mn])), (m1, .inl (cI, 12, .inl hf)), (m2, .inl (cZ, 12, .inl bf))] sz)) (va_Ql (fun (r : Int64) (u : Unit) => r = 0) (fun (u : Unit) t => ny_at D [(cI, .int), (cZ, .boolean)] (va_A [(mo, .inr (4, [.int th, .ref m1, .ref m2, .ref m3, .ref m4, .int mn])), (m1, .inl (cI, 12, .inl hf)), (m2, .inl (cZ, 12, .inl bf))] sz) [(mo, .inr (4, [.int 2, .ref m1, .ref m2, .ref m3, .ref m4, .int mn])), (m1, .inl (cI, 12, .inl hf)), (m2, .inl (cZ, 12, .inl bf))] t) (va_A [(mo, .inr (4, [.int th, .ref m1, .ref m2, .ref m3, .ref m4, .int mn])), (m1, .inl (cI, 12, .inl hf)), (m2, .inl (cZ, 12, .inl bf))] sz)) 0 0 (va_A [(mo, .inr (4, [.int th, .ref m1, .ref m2, .ref m3, .ref m4, .int mn])), (m1, .inl (cI, 12, .inl hf)), (m2, .inl (cZ, 12, .inl bf))] sz) := by
  refine Met.ofW (cc := cX2_minus) (maxL := 5) (ret := (some .long)) (by decide) rfl ?_
  intro p e s m args below meth c s₁ B hml hv
  obtain ⟨rfl, hsz, hP, hK, hD0, hE⟩ := hv
  have hx := B.exec
  have hb := B.bytes
  have hr := B.returns
  have hts := atoms_spec (ws := wsX2_minus) B.pre
  have hown : s.vm.findClass RX2 = some m.cls := findClass_of_methodNamed B.named
  have hlocks := B.notSynchronized
  subst hsz
  have hD := hD0.self (sz := s.heap.size)
  generalize hAe : va_A [(mo, .inr (4, [.int th, .ref m1, .ref m2, .ref m3, .ref m4, .int mn])), (m1, .inl (cI, 12, .inl hf)), (m2, .inl (cZ, 12, .inl bf))] s.heap.size = A at hD hE ⊢
  have hA : ∀ q : Nat, s.heap.size ≤ q → A q := fun q h => by rw [← hAe]; exact Or.inr h
  have hS : va_S A s.heap s.heap [] := va_S.rf
  have hl := lv_entry ([.ref mo, .int i0, .int i1, .int i2, .int i3]) (n := 5) (Nat.le_of_ble_eq_true rfl)
  rw [lg_entry_eq]
  generalize (lg_sl ([.ref mo, .int i0, .int i1, .int i2, .int i3]) ++ List.replicate (5 - (lg_sl ([.ref mo, .int i0, .int i1, .int i2, .int i3])).length) Slot.unset).toArray = ls at hl ⊢
  have hl : lv_has ls 5 [(0, .ref mo), (1, .int i0), (2, .int i1), (3, .int i2), (4, .int i3)] := hl
  refine lv_aload_n hx hb dX2_minus_0 rfl (lv_at hl 0 rfl) ?_
  refine lv_iload_n hx hb dX2_minus_1 rfl (lv_at hl 1 rfl) ?_
  refine lv_iload_n hx hb dX2_minus_2 rfl (lv_at hl 2 rfl) ?_
  refine lv_iload_n hx hb dX2_minus_3 rfl (lv_at hl 3 rfl) ?_
  refine lv_iload hx hb dX2_minus_4 (lv_at hl 4 rfl) ?_
  refine ny_i (wc := [(mo, .inr (4, [.int th, .ref m1, .ref m2, .ref m3, .ref m4, .int mn])), (m1, .inl (cI, 12, .inl hf))]) (wr := [(m2, .inl (cZ, 12, .inl bf))]) hP hD hS hA [0, 1] [2] rfl rfl (by decide) (by decide) (va_runV (As := [.int i0, .int i1, .int i2, .int i3]) (rest := []) ⟨hx, hb, hml, hown, hts⟩ (c_X2_isBad_no0 l D cI mo m1 m2 m3 m4 s.heap.size th mn hf i0 i1 i2 i3 (by assumption) (by assumption) (by assumption) (by assumption) (by assumption)) (cwV 4 hts gX2_minus_X2_isBad rfl rfl rfl (by decide +kernel) ⟨Nat.le_of_ble_eq_true rfl, Nat.le_of_ble_eq_true rfl⟩) ⟨ny_blind, va_recv hK hP (ci := 4) (q0 := 0) rfl rfl, fun U hU hW => ⟨rfl, ny_preU hE hP hK hD hS hA [0, 1] rfl (by decide) rfl [0] rfl U hU hW⟩⟩ rfl rfl hl.1 rfl (lv_room (Nat.le_of_ble_eq_true rfl)) dX2_minus_6 ⟨Nat.le_of_ble_eq_true rfl, Nat.le_of_ble_eq_true rfl⟩) (fun r_6 u H locs hw_6 hP hD hS => ?_)
  have hP : va_P D vwCl [(m2, .inl (cZ, 12, .inl bf)), (mo, .inr (4, [.int 2, .ref m1, .ref m2, .ref m3, .ref m4, .int mn])), (m1, .inl (cI, 12, .inl hf))] H := hP
  have hD : va_D A [(m2, .inl (cZ, 12, .inl bf)), (mo, .inr (4, [.int 2, .ref m1, .ref m2, .ref m3, .ref m4, .int mn])), (m1, .inl (cI, 12, .inl hf))] := hD
  have hw_6 : r_6 = 1 := hw_6
  subst hw_6
  refine lv_if_eq (tgt := 16) hx hb dX2_minus_9 (by decide) (fun c_9 => absurd c_9 (show ¬ ((1 : Int32) = 0) by  decide)) (fun c_9 => ?_)
  refine lv_lconst (v := 0) hx hb dX2_minus_12 (by decide) ?_
  refine lv_goto (tgt := 47) hx hb dX2_minus_13 (by decide) ?_
  have hP9 := hP.sub (ws' := [(mo, .inr (4, [.int 2, .ref m1, .ref m2, .ref m3, .ref m4, .int mn])), (m1, .inl (cI, 12, .inl hf)), (m2, .inl (cZ, 12, .inl bf))]) [1, 2, 0] rfl
  have hD9 := hD.sub (ws' := [(mo, .inr (4, [.int 2, .ref m1, .ref m2, .ref m3, .ref m4, .int mn])), (m1, .inl (cI, 12, .inl hf)), (m2, .inl (cZ, 12, .inl bf))]) [1, 2, 0] (by decide) rfl
  exact W.lret (v := 0) hx hb hr (fun t ht hW => ⟨⟨0, (), rfl, (rfl), by rw [ht]; exact hP9, va_K.moved hW.alike hK, hD9⟩, hS.F ht⟩) hS.2.2 dX2_minus_47
theorem in_X2_product_X2 : ∀ w ∈ wsX20, w ∈ wsX2_product := (fun _ h => List.mem_cons_of_mem _ (List.mem_append_left _ (List.mem_append_left _ (List.mem_append_right _ h))))
set_option maxHeartbeats 4000000 in
set_option maxRecDepth 100000 in
theorem c_X2_product (l : Launch) (D : va_G) (cI : ClassId) (cZ : ClassId) (mo : Nat) (m1 : Nat) (m2 : Nat) (m3 : Nat) (m4 : Nat) (sz : Nat) (th : Int32) (mn : Int32) (hf : Nat → Int32) (bf : Nat → Int32) (i0 : Int32) (i1 : Int32) (i2 : Int32) (i3 : Int32) (gp0 : vp_in i0 12) (gp2 : vp_in i2 12) (gp1 : vp_in i1 12) (gp3 : vp_in i3 12) (g0 : ¬ hf i3.toNatClampNeg = 0) (gH : ny_H hf) : Met l yX2_product wsX2_product ({ frames := 3, cells := 0, slots := 0, locals := 70 }) (va_Pc [.ref mo, .int i0, .int i1, .int i2, .int i3] (ny_pre D [(cI, .int), (cZ, .boolean)] [(mo, .inr (4, [.int th, .ref m1, .ref m2, .ref m3, .ref m4, .int mn])), (m1, .inl (cI, 12, .inl hf)), (m2, .inl (cZ, 12, .inl bf))] sz)) (va_Ql (fun (r : Int64) (u : Unit) => r = f_bt (f_rs ((hf i1.toNatClampNeg * hf i2.toNatClampNeg).toInt64) (hf i3.toNatClampNeg)) 0) (fun (u : Unit) t => ny_at D [(cI, .int), (cZ, .boolean)] (va_A [(mo, .inr (4, [.int th, .ref m1, .ref m2, .ref m3, .ref m4, .int mn])), (m1, .inl (cI, 12, .inl hf)), (m2, .inl (cZ, 12, .inl bf))] sz) [(mo, .inr (4, [.int 0, .ref m1, .ref m2, .ref m3, .ref m4, .int mn])), (m1, .inl (cI, 12, .inl (upd hf i0.toNatClampNeg (f_rs ((hf i1.toNatClampNeg * hf i2.toNatClampNeg).toInt64) (hf i3.toNatClampNeg))))), (m2, .inl (cZ, 12, .inl (upd bf i0.toNatClampNeg 0)))] t) (va_A [(mo, .inr (4, [.int th, .ref m1, .ref m2, .ref m3, .ref m4, .int mn])), (m1, .inl (cI, 12, .inl hf)), (m2, .inl (cZ, 12, .inl bf))] sz)) 0 0 (va_A [(mo, .inr (4, [.int th, .ref m1, .ref m2, .ref m3, .ref m4, .int mn])), (m1, .inl (cI, 12, .inl hf)), (m2, .inl (cZ, 12, .inl bf))] sz) := by
  refine Met.ofW (cc := cX2_product) (maxL := 5) (ret := (some .long)) (by decide) rfl ?_
  intro p e s m args below meth c s₁ B hml hv
  obtain ⟨rfl, hsz, hP, hK, hD0, hE⟩ := hv
  have hx := B.exec
  have hb := B.bytes
  have hr := B.returns
  have hts := atoms_spec (ws := wsX2_product) B.pre
  have hown : s.vm.findClass RX2 = some m.cls := findClass_of_methodNamed B.named
  have hlocks := B.notSynchronized
  subst hsz
  have hD := hD0.self (sz := s.heap.size)
  generalize hAe : va_A [(mo, .inr (4, [.int th, .ref m1, .ref m2, .ref m3, .ref m4, .int mn])), (m1, .inl (cI, 12, .inl hf)), (m2, .inl (cZ, 12, .inl bf))] s.heap.size = A at hD hE ⊢
  have hA : ∀ q : Nat, s.heap.size ≤ q → A q := fun q h => by rw [← hAe]; exact Or.inr h
  have hS : va_S A s.heap s.heap [] := va_S.rf
  have hl := lv_entry ([.ref mo, .int i0, .int i1, .int i2, .int i3]) (n := 5) (Nat.le_of_ble_eq_true rfl)
  rw [lg_entry_eq]
  generalize (lg_sl ([.ref mo, .int i0, .int i1, .int i2, .int i3]) ++ List.replicate (5 - (lg_sl ([.ref mo, .int i0, .int i1, .int i2, .int i3])).length) Slot.unset).toArray = ls at hl ⊢
  have hl : lv_has ls 5 [(0, .ref mo), (1, .int i0), (2, .int i1), (3, .int i2), (4, .int i3)] := hl
  refine lv_aload_n hx hb dX2_product_0 rfl (lv_at hl 0 rfl) ?_
  refine lv_iload_n hx hb dX2_product_1 rfl (lv_at hl 1 rfl) ?_
  refine lv_iload_n hx hb dX2_product_2 rfl (lv_at hl 2 rfl) ?_
  refine lv_iload_n hx hb dX2_product_3 rfl (lv_at hl 3 rfl) ?_
  refine lv_iload hx hb dX2_product_4 (lv_at hl 4 rfl) ?_
  refine ny_i (wc := [(mo, .inr (4, [.int th, .ref m1, .ref m2, .ref m3, .ref m4, .int mn])), (m1, .inl (cI, 12, .inl hf))]) (wr := [(m2, .inl (cZ, 12, .inl bf))]) hP hD hS hA [0, 1] [2] rfl rfl (by decide) (by decide) (va_runV (As := [.int i0, .int i1, .int i2, .int i3]) (rest := []) ⟨hx, hb, hml, hown, hts⟩ (c_X2_isBad l D cI mo m1 m2 m3 m4 s.heap.size th mn hf i0 i1 i2 i3 (by assumption) (by assumption) (by assumption) (by assumption) (by assumption)) (cwV 4 hts gX2_product_X2_isBad rfl rfl rfl (by decide +kernel) ⟨Nat.le_of_ble_eq_true rfl, Nat.le_of_ble_eq_true rfl⟩) ⟨ny_blind, va_recv hK hP (ci := 4) (q0 := 0) rfl rfl, fun U hU hW => ⟨rfl, ny_preU hE hP hK hD hS hA [0, 1] rfl (by decide) rfl [0] rfl U hU hW⟩⟩ rfl rfl hl.1 rfl (lv_room (Nat.le_of_ble_eq_true rfl)) dX2_product_6 ⟨Nat.le_of_ble_eq_true rfl, Nat.le_of_ble_eq_true rfl⟩) (fun r_6 u H locs hw_6 hP hD hS => ?_)
  have hP : va_P D vwCl [(m2, .inl (cZ, 12, .inl bf)), (mo, .inr (4, [.int 0, .ref m1, .ref m2, .ref m3, .ref m4, .int mn])), (m1, .inl (cI, 12, .inl hf))] H := hP
  have hD : va_D A [(m2, .inl (cZ, 12, .inl bf)), (mo, .inr (4, [.int 0, .ref m1, .ref m2, .ref m3, .ref m4, .int mn])), (m1, .inl (cI, 12, .inl hf))] := hD
  have hw_6 : r_6 = 0 := hw_6
  subst hw_6
  refine lv_if_eq (tgt := 16) hx hb dX2_product_9 (by decide) (fun c_9 => ?_) (fun c_9 => absurd (show (0 : Int32) = 0 by  decide) c_9)
  refine lv_aload_n hx hb dX2_product_16 rfl (lv_at hl 0 rfl) ?_
  refine lv_iload_n hx hb dX2_product_17 rfl (lv_at hl 1 rfl) ?_
  refine lv_aload_n hx hb dX2_product_18 rfl (lv_at hl 0 rfl) ?_
  refine va_get (D := D) (ci := 4) (v := .ref m1) (C := RX2) (T := TX2) (N := 6) hx hb hts in_X2_product_X2 hown hK hP 1 rfl rfl 1 (by decide) (hts (.fieldLink RX2 7 "NearestclockModel" "eighths" "[I") (List.mem_of_getElem? (i := 1) rfl)) (fun _ h9 => h9) rfl dX2_product_19 ?_
  refine lv_iload_n hx hb dX2_product_22 rfl (lv_at hl 2 rfl) ?_
  refine va_iald hx hb hK hP 2 0 rfl rfl (by assumption) dX2_product_23 ?_
  refine lv_i2l hx hb dX2_product_24 rfl ?_
  refine lv_aload_n hx hb dX2_product_25 rfl (lv_at hl 0 rfl) ?_
  refine va_get (D := D) (ci := 4) (v := .ref m1) (C := RX2) (T := TX2) (N := 6) hx hb hts in_X2_product_X2 hown hK hP 1 rfl rfl 1 (by decide) (hts (.fieldLink RX2 7 "NearestclockModel" "eighths" "[I") (List.mem_of_getElem? (i := 1) rfl)) (fun _ h9 => h9) rfl dX2_product_26 ?_
  refine lv_iload_n hx hb dX2_product_29 rfl (lv_at hl 3 rfl) ?_
  refine va_iald hx hb hK hP 2 0 rfl rfl (by assumption) dX2_product_30 ?_
  refine lv_i2l hx hb dX2_product_31 rfl ?_
  refine lv_lmul hx hb dX2_product_32 ?_
  refine ny_tl (x2 := (hf i1.toNatClampNeg * hf i2.toNatClampNeg).toInt64) (n_wmul (gH _ (n_ix gp1)) (gH _ (n_ix gp2))) ?_
  refine lv_aload_n hx hb dX2_product_33 rfl (lv_at hl 0 rfl) ?_
  refine va_get (D := D) (ci := 4) (v := .ref m1) (C := RX2) (T := TX2) (N := 6) hx hb hts in_X2_product_X2 hown hK hP 1 rfl rfl 1 (by decide) (hts (.fieldLink RX2 7 "NearestclockModel" "eighths" "[I") (List.mem_of_getElem? (i := 1) rfl)) (fun _ h9 => h9) rfl dX2_product_34 ?_
  refine lv_iload hx hb dX2_product_37 (lv_at hl 4 rfl) ?_
  refine va_iald hx hb hK hP 2 0 rfl rfl (by assumption) dX2_product_39 ?_
  refine vp_callSi (va_Run.run (va_runS (As := [.long ((hf i1.toNatClampNeg * hf i2.toNatClampNeg).toInt64), .int (hf i3.toNatClampNeg)]) (rest := [.int i0, .ref mo]) ⟨hx, hb, hml, hown, hts⟩ (c_X2_residueOf l ((hf i1.toNatClampNeg * hf i2.toNatClampNeg).toInt64) (hf i3.toNatClampNeg) (gH _ (n_ix gp3)) (by assumption) (n_lb _)) (va_cwS 2 hts gX2_product_X2_residueOf rfl rfl rfl (by decide +kernel) ⟨Nat.le_of_ble_eq_true rfl, Nat.le_of_ble_eq_true rfl⟩) ⟨ny_blindT, fun U hU hW => ⟨rfl, trivial⟩⟩ rfl rfl hl.1 rfl (lv_room (Nat.le_of_ble_eq_true rfl)) dX2_product_40 ⟨Nat.le_of_ble_eq_true rfl, Nat.le_of_ble_eq_true rfl⟩)) (fun r_40 hw_40 => ?_)
  have hw_40 : r_40 = f_rs ((hf i1.toNatClampNeg * hf i2.toNatClampNeg).toInt64) (hf i3.toNatClampNeg) := hw_40
  subst hw_40
  refine lv_iconst (v := 0) hx hb dX2_product_43 (by decide) ?_
  refine ny_l (wc := [(mo, .inr (4, [.int 0, .ref m1, .ref m2, .ref m3, .ref m4, .int mn])), (m1, .inl (cI, 12, .inl hf)), (m2, .inl (cZ, 12, .inl bf))]) (wr := []) hP hD hS hA [1, 2, 0] [] rfl rfl (by decide) (by decide) (va_runV (As := [.int i0, .int (f_rs ((hf i1.toNatClampNeg * hf i2.toNatClampNeg).toInt64) (hf i3.toNatClampNeg)), .int 0]) (rest := []) ⟨hx, hb, hml, hown, hts⟩ (c_X2_lays l D cI cZ mo m1 m2 m3 m4 H.size 0 mn hf bf i0 (f_rs ((hf i1.toNatClampNeg * hf i2.toNatClampNeg).toInt64) (hf i3.toNatClampNeg)) 0 (by assumption) (ny_R_rs (gH _ (n_ix gp3)) g0) (Or.inl rfl)) (cwV 3 hts gX2_product_X2_lays rfl rfl rfl (by decide +kernel) ⟨Nat.le_of_ble_eq_true rfl, Nat.le_of_ble_eq_true rfl⟩) ⟨ny_blind, va_recv hK hP (ci := 4) (q0 := 1) rfl rfl, fun U hU hW => ⟨rfl, ny_preU hE hP hK hD hS hA [1, 2, 0] rfl (by decide) rfl [0, 1] rfl U hU hW⟩⟩ rfl rfl hl.1 rfl (lv_room (Nat.le_of_ble_eq_true rfl)) dX2_product_44 ⟨Nat.le_of_ble_eq_true rfl, Nat.le_of_ble_eq_true rfl⟩) (fun r_44 u H locs hw_44 hP hD hS => ?_)
  have hP : va_P D vwCl [(mo, .inr (4, [.int 0, .ref m1, .ref m2, .ref m3, .ref m4, .int mn])), (m1, .inl (cI, 12, .inl (upd hf i0.toNatClampNeg (f_rs ((hf i1.toNatClampNeg * hf i2.toNatClampNeg).toInt64) (hf i3.toNatClampNeg))))), (m2, .inl (cZ, 12, .inl (upd bf i0.toNatClampNeg (f_z (f_rs ((hf i1.toNatClampNeg * hf i2.toNatClampNeg).toInt64) (hf i3.toNatClampNeg)) 0))))] H := hP
  have hD : va_D A [(mo, .inr (4, [.int 0, .ref m1, .ref m2, .ref m3, .ref m4, .int mn])), (m1, .inl (cI, 12, .inl (upd hf i0.toNatClampNeg (f_rs ((hf i1.toNatClampNeg * hf i2.toNatClampNeg).toInt64) (hf i3.toNatClampNeg))))), (m2, .inl (cZ, 12, .inl (upd bf i0.toNatClampNeg (f_z (f_rs ((hf i1.toNatClampNeg * hf i2.toNatClampNeg).toInt64) (hf i3.toNatClampNeg)) 0))))] := hD
  have hw_44 : r_44 = f_bt (f_rs ((hf i1.toNatClampNeg * hf i2.toNatClampNeg).toInt64) (hf i3.toNatClampNeg)) 0 := hw_44
  subst hw_44
  have hP9 := hP.sub (ws' := [(mo, .inr (4, [.int 0, .ref m1, .ref m2, .ref m3, .ref m4, .int mn])), (m1, .inl (cI, 12, .inl (upd hf i0.toNatClampNeg (f_rs ((hf i1.toNatClampNeg * hf i2.toNatClampNeg).toInt64) (hf i3.toNatClampNeg))))), (m2, .inl (cZ, 12, .inl (upd bf i0.toNatClampNeg (f_z (f_rs ((hf i1.toNatClampNeg * hf i2.toNatClampNeg).toInt64) (hf i3.toNatClampNeg)) 0))))]) [0, 1, 2] rfl
  have hD9 := hD.sub (ws' := [(mo, .inr (4, [.int 0, .ref m1, .ref m2, .ref m3, .ref m4, .int mn])), (m1, .inl (cI, 12, .inl (upd hf i0.toNatClampNeg (f_rs ((hf i1.toNatClampNeg * hf i2.toNatClampNeg).toInt64) (hf i3.toNatClampNeg))))), (m2, .inl (cZ, 12, .inl (upd bf i0.toNatClampNeg (f_z (f_rs ((hf i1.toNatClampNeg * hf i2.toNatClampNeg).toInt64) (hf i3.toNatClampNeg)) 0))))]) [0, 1, 2] (by decide) rfl
  rw [f_z_0] at hP9 hD9
  exact W.lret (v := f_bt (f_rs ((hf i1.toNatClampNeg * hf i2.toNatClampNeg).toInt64) (hf i3.toNatClampNeg)) 0) hx hb hr (fun t ht hW => ⟨⟨f_bt (f_rs ((hf i1.toNatClampNeg * hf i2.toNatClampNeg).toInt64) (hf i3.toNatClampNeg)) 0, (), rfl, (rfl), by rw [ht]; exact hP9, va_K.moved hW.alike hK, hD9⟩, hS.F ht⟩) hS.2.2 dX2_product_47
set_option maxHeartbeats 4000000 in
set_option maxRecDepth 100000 in
theorem c_X2_product_noP (l : Launch) (D : va_G) (cI : ClassId) (cZ : ClassId) (mo : Nat) (m1 : Nat) (m2 : Nat) (m3 : Nat) (m4 : Nat) (sz : Nat) (th : Int32) (mn : Int32) (hf : Nat → Int32) (bf : Nat → Int32) (i0 : Int32) (i1 : Int32) (i2 : Int32) (i3 : Int32) (gb : ¬ vp_in i0 12 ∨ (¬ vp_in i2 12 ∨ (¬ vp_in i1 12 ∨ ¬ vp_in i3 12))) : Met l yX2_product wsX2_product ({ frames := 2, cells := 0, slots := 0, locals := 46 }) (va_Pc [.ref mo, .int i0, .int i1, .int i2, .int i3] (ny_pre D [(cI, .int), (cZ, .boolean)] [(mo, .inr (4, [.int th, .ref m1, .ref m2, .ref m3, .ref m4, .int mn])), (m1, .inl (cI, 12, .inl hf)), (m2, .inl (cZ, 12, .inl bf))] sz)) (va_Ql (fun (r : Int64) (u : Unit) => r = 0) (fun (u : Unit) t => ny_at D [(cI, .int), (cZ, .boolean)] (va_A [(mo, .inr (4, [.int th, .ref m1, .ref m2, .ref m3, .ref m4, .int mn])), (m1, .inl (cI, 12, .inl hf)), (m2, .inl (cZ, 12, .inl bf))] sz) [(mo, .inr (4, [.int 1, .ref m1, .ref m2, .ref m3, .ref m4, .int mn])), (m1, .inl (cI, 12, .inl hf)), (m2, .inl (cZ, 12, .inl bf))] t) (va_A [(mo, .inr (4, [.int th, .ref m1, .ref m2, .ref m3, .ref m4, .int mn])), (m1, .inl (cI, 12, .inl hf)), (m2, .inl (cZ, 12, .inl bf))] sz)) 0 0 (va_A [(mo, .inr (4, [.int th, .ref m1, .ref m2, .ref m3, .ref m4, .int mn])), (m1, .inl (cI, 12, .inl hf)), (m2, .inl (cZ, 12, .inl bf))] sz) := by
  refine Met.ofW (cc := cX2_product) (maxL := 5) (ret := (some .long)) (by decide) rfl ?_
  intro p e s m args below meth c s₁ B hml hv
  obtain ⟨rfl, hsz, hP, hK, hD0, hE⟩ := hv
  have hx := B.exec
  have hb := B.bytes
  have hr := B.returns
  have hts := atoms_spec (ws := wsX2_product) B.pre
  have hown : s.vm.findClass RX2 = some m.cls := findClass_of_methodNamed B.named
  have hlocks := B.notSynchronized
  subst hsz
  have hD := hD0.self (sz := s.heap.size)
  generalize hAe : va_A [(mo, .inr (4, [.int th, .ref m1, .ref m2, .ref m3, .ref m4, .int mn])), (m1, .inl (cI, 12, .inl hf)), (m2, .inl (cZ, 12, .inl bf))] s.heap.size = A at hD hE ⊢
  have hA : ∀ q : Nat, s.heap.size ≤ q → A q := fun q h => by rw [← hAe]; exact Or.inr h
  have hS : va_S A s.heap s.heap [] := va_S.rf
  have hl := lv_entry ([.ref mo, .int i0, .int i1, .int i2, .int i3]) (n := 5) (Nat.le_of_ble_eq_true rfl)
  rw [lg_entry_eq]
  generalize (lg_sl ([.ref mo, .int i0, .int i1, .int i2, .int i3]) ++ List.replicate (5 - (lg_sl ([.ref mo, .int i0, .int i1, .int i2, .int i3])).length) Slot.unset).toArray = ls at hl ⊢
  have hl : lv_has ls 5 [(0, .ref mo), (1, .int i0), (2, .int i1), (3, .int i2), (4, .int i3)] := hl
  refine lv_aload_n hx hb dX2_product_0 rfl (lv_at hl 0 rfl) ?_
  refine lv_iload_n hx hb dX2_product_1 rfl (lv_at hl 1 rfl) ?_
  refine lv_iload_n hx hb dX2_product_2 rfl (lv_at hl 2 rfl) ?_
  refine lv_iload_n hx hb dX2_product_3 rfl (lv_at hl 3 rfl) ?_
  refine lv_iload hx hb dX2_product_4 (lv_at hl 4 rfl) ?_
  refine ny_i (wc := [(mo, .inr (4, [.int th, .ref m1, .ref m2, .ref m3, .ref m4, .int mn])), (m1, .inl (cI, 12, .inl hf))]) (wr := [(m2, .inl (cZ, 12, .inl bf))]) hP hD hS hA [0, 1] [2] rfl rfl (by decide) (by decide) (va_runV (As := [.int i0, .int i1, .int i2, .int i3]) (rest := []) ⟨hx, hb, hml, hown, hts⟩ (c_X2_isBad_noP l D cI mo m1 m2 m3 m4 s.heap.size th mn hf i0 i1 i2 i3 (by rcases gb with h | h | h | h <;> simp [h])) (cwV 4 hts gX2_product_X2_isBad rfl rfl rfl (by decide +kernel) ⟨Nat.le_of_ble_eq_true rfl, Nat.le_of_ble_eq_true rfl⟩) ⟨ny_blind, va_recv hK hP (ci := 4) (q0 := 0) rfl rfl, fun U hU hW => ⟨rfl, ny_preU hE hP hK hD hS hA [0, 1] rfl (by decide) rfl [0] rfl U hU hW⟩⟩ rfl rfl hl.1 rfl (lv_room (Nat.le_of_ble_eq_true rfl)) dX2_product_6 ⟨Nat.le_of_ble_eq_true rfl, Nat.le_of_ble_eq_true rfl⟩) (fun r_6 u H locs hw_6 hP hD hS => ?_)
  have hP : va_P D vwCl [(m2, .inl (cZ, 12, .inl bf)), (mo, .inr (4, [.int 1, .ref m1, .ref m2, .ref m3, .ref m4, .int mn])), (m1, .inl (cI, 12, .inl hf))] H := hP
  have hD : va_D A [(m2, .inl (cZ, 12, .inl bf)), (mo, .inr (4, [.int 1, .ref m1, .ref m2, .ref m3, .ref m4, .int mn])), (m1, .inl (cI, 12, .inl hf))] := hD
  have hw_6 : r_6 = 1 := hw_6
  subst hw_6
  refine lv_if_eq (tgt := 16) hx hb dX2_product_9 (by decide) (fun c_9 => absurd c_9 (show ¬ ((1 : Int32) = 0) by  decide)) (fun c_9 => ?_)
  refine lv_lconst (v := 0) hx hb dX2_product_12 (by decide) ?_
  refine lv_goto (tgt := 47) hx hb dX2_product_13 (by decide) ?_
  have hP9 := hP.sub (ws' := [(mo, .inr (4, [.int 1, .ref m1, .ref m2, .ref m3, .ref m4, .int mn])), (m1, .inl (cI, 12, .inl hf)), (m2, .inl (cZ, 12, .inl bf))]) [1, 2, 0] rfl
  have hD9 := hD.sub (ws' := [(mo, .inr (4, [.int 1, .ref m1, .ref m2, .ref m3, .ref m4, .int mn])), (m1, .inl (cI, 12, .inl hf)), (m2, .inl (cZ, 12, .inl bf))]) [1, 2, 0] (by decide) rfl
  exact W.lret (v := 0) hx hb hr (fun t ht hW => ⟨⟨0, (), rfl, (rfl), by rw [ht]; exact hP9, va_K.moved hW.alike hK, hD9⟩, hS.F ht⟩) hS.2.2 dX2_product_47
set_option maxHeartbeats 4000000 in
set_option maxRecDepth 100000 in
theorem c_X2_product_no0 (l : Launch) (D : va_G) (cI : ClassId) (cZ : ClassId) (mo : Nat) (m1 : Nat) (m2 : Nat) (m3 : Nat) (m4 : Nat) (sz : Nat) (th : Int32) (mn : Int32) (hf : Nat → Int32) (bf : Nat → Int32) (i0 : Int32) (i1 : Int32) (i2 : Int32) (i3 : Int32) (gp0 : vp_in i0 12) (gp2 : vp_in i2 12) (gp1 : vp_in i1 12) (gp3 : vp_in i3 12) (g0 : hf i3.toNatClampNeg = 0) : Met l yX2_product wsX2_product ({ frames := 2, cells := 0, slots := 0, locals := 46 }) (va_Pc [.ref mo, .int i0, .int i1, .int i2, .int i3] (ny_pre D [(cI, .int), (cZ, .boolean)] [(mo, .inr (4, [.int th, .ref m1, .ref m2, .ref m3, .ref m4, .int mn])), (m1, .inl (cI, 12, .inl hf)), (m2, .inl (cZ, 12, .inl bf))] sz)) (va_Ql (fun (r : Int64) (u : Unit) => r = 0) (fun (u : Unit) t => ny_at D [(cI, .int), (cZ, .boolean)] (va_A [(mo, .inr (4, [.int th, .ref m1, .ref m2, .ref m3, .ref m4, .int mn])), (m1, .inl (cI, 12, .inl hf)), (m2, .inl (cZ, 12, .inl bf))] sz) [(mo, .inr (4, [.int 2, .ref m1, .ref m2, .ref m3, .ref m4, .int mn])), (m1, .inl (cI, 12, .inl hf)), (m2, .inl (cZ, 12, .inl bf))] t) (va_A [(mo, .inr (4, [.int th, .ref m1, .ref m2, .ref m3, .ref m4, .int mn])), (m1, .inl (cI, 12, .inl hf)), (m2, .inl (cZ, 12, .inl bf))] sz)) 0 0 (va_A [(mo, .inr (4, [.int th, .ref m1, .ref m2, .ref m3, .ref m4, .int mn])), (m1, .inl (cI, 12, .inl hf)), (m2, .inl (cZ, 12, .inl bf))] sz) := by
  refine Met.ofW (cc := cX2_product) (maxL := 5) (ret := (some .long)) (by decide) rfl ?_
  intro p e s m args below meth c s₁ B hml hv
  obtain ⟨rfl, hsz, hP, hK, hD0, hE⟩ := hv
  have hx := B.exec
  have hb := B.bytes
  have hr := B.returns
  have hts := atoms_spec (ws := wsX2_product) B.pre
  have hown : s.vm.findClass RX2 = some m.cls := findClass_of_methodNamed B.named
  have hlocks := B.notSynchronized
  subst hsz
  have hD := hD0.self (sz := s.heap.size)
  generalize hAe : va_A [(mo, .inr (4, [.int th, .ref m1, .ref m2, .ref m3, .ref m4, .int mn])), (m1, .inl (cI, 12, .inl hf)), (m2, .inl (cZ, 12, .inl bf))] s.heap.size = A at hD hE ⊢
  have hA : ∀ q : Nat, s.heap.size ≤ q → A q := fun q h => by rw [← hAe]; exact Or.inr h
  have hS : va_S A s.heap s.heap [] := va_S.rf
  have hl := lv_entry ([.ref mo, .int i0, .int i1, .int i2, .int i3]) (n := 5) (Nat.le_of_ble_eq_true rfl)
  rw [lg_entry_eq]
  generalize (lg_sl ([.ref mo, .int i0, .int i1, .int i2, .int i3]) ++ List.replicate (5 - (lg_sl ([.ref mo, .int i0, .int i1, .int i2, .int i3])).length) Slot.unset).toArray = ls at hl ⊢
  have hl : lv_has ls 5 [(0, .ref mo), (1, .int i0), (2, .int i1), (3, .int i2), (4, .int i3)] := hl
  refine lv_aload_n hx hb dX2_product_0 rfl (lv_at hl 0 rfl) ?_
  refine lv_iload_n hx hb dX2_product_1 rfl (lv_at hl 1 rfl) ?_
  refine lv_iload_n hx hb dX2_product_2 rfl (lv_at hl 2 rfl) ?_
  refine lv_iload_n hx hb dX2_product_3 rfl (lv_at hl 3 rfl) ?_
  refine lv_iload hx hb dX2_product_4 (lv_at hl 4 rfl) ?_
  refine ny_i (wc := [(mo, .inr (4, [.int th, .ref m1, .ref m2, .ref m3, .ref m4, .int mn])), (m1, .inl (cI, 12, .inl hf))]) (wr := [(m2, .inl (cZ, 12, .inl bf))]) hP hD hS hA [0, 1] [2] rfl rfl (by decide) (by decide) (va_runV (As := [.int i0, .int i1, .int i2, .int i3]) (rest := []) ⟨hx, hb, hml, hown, hts⟩ (c_X2_isBad_no0 l D cI mo m1 m2 m3 m4 s.heap.size th mn hf i0 i1 i2 i3 (by assumption) (by assumption) (by assumption) (by assumption) (by assumption)) (cwV 4 hts gX2_product_X2_isBad rfl rfl rfl (by decide +kernel) ⟨Nat.le_of_ble_eq_true rfl, Nat.le_of_ble_eq_true rfl⟩) ⟨ny_blind, va_recv hK hP (ci := 4) (q0 := 0) rfl rfl, fun U hU hW => ⟨rfl, ny_preU hE hP hK hD hS hA [0, 1] rfl (by decide) rfl [0] rfl U hU hW⟩⟩ rfl rfl hl.1 rfl (lv_room (Nat.le_of_ble_eq_true rfl)) dX2_product_6 ⟨Nat.le_of_ble_eq_true rfl, Nat.le_of_ble_eq_true rfl⟩) (fun r_6 u H locs hw_6 hP hD hS => ?_)
  have hP : va_P D vwCl [(m2, .inl (cZ, 12, .inl bf)), (mo, .inr (4, [.int 2, .ref m1, .ref m2, .ref m3, .ref m4, .int mn])), (m1, .inl (cI, 12, .inl hf))] H := hP
  have hD : va_D A [(m2, .inl (cZ, 12, .inl bf)), (mo, .inr (4, [.int 2, .ref m1, .ref m2, .ref m3, .ref m4, .int mn])), (m1, .inl (cI, 12, .inl hf))] := hD
  have hw_6 : r_6 = 1 := hw_6
  subst hw_6
  refine lv_if_eq (tgt := 16) hx hb dX2_product_9 (by decide) (fun c_9 => absurd c_9 (show ¬ ((1 : Int32) = 0) by  decide)) (fun c_9 => ?_)
  refine lv_lconst (v := 0) hx hb dX2_product_12 (by decide) ?_
  refine lv_goto (tgt := 47) hx hb dX2_product_13 (by decide) ?_
  have hP9 := hP.sub (ws' := [(mo, .inr (4, [.int 2, .ref m1, .ref m2, .ref m3, .ref m4, .int mn])), (m1, .inl (cI, 12, .inl hf)), (m2, .inl (cZ, 12, .inl bf))]) [1, 2, 0] rfl
  have hD9 := hD.sub (ws' := [(mo, .inr (4, [.int 2, .ref m1, .ref m2, .ref m3, .ref m4, .int mn])), (m1, .inl (cI, 12, .inl hf)), (m2, .inl (cZ, 12, .inl bf))]) [1, 2, 0] (by decide) rfl
  exact W.lret (v := 0) hx hb hr (fun t ht hW => ⟨⟨0, (), rfl, (rfl), by rw [ht]; exact hP9, va_K.moved hW.alike hK, hD9⟩, hS.F ht⟩) hS.2.2 dX2_product_47
theorem in_X2_many_X2 : ∀ w ∈ wsX20, w ∈ wsX2_many := (fun _ h => List.mem_cons_of_mem _ (List.mem_append_left _ (List.mem_append_left _ (List.mem_append_right _ h))))
set_option maxHeartbeats 4000000 in
set_option maxRecDepth 100000 in
theorem c_X2_many (l : Launch) (D : va_G) (cI : ClassId) (cZ : ClassId) (mo : Nat) (m1 : Nat) (m2 : Nat) (m3 : Nat) (m4 : Nat) (sz : Nat) (th : Int32) (mn : Int32) (hf : Nat → Int32) (bf : Nat → Int32) (i0 : Int32) (i1 : Int32) (i2 : Int32) (i3 : Int32) (gp0 : vp_in i0 12) (gp2 : vp_in i2 12) (gp3 : vp_in i3 12) (g0 : ¬ hf i3.toNatClampNeg = 0) (gH : ny_H hf) : Met l yX2_many wsX2_many ({ frames := 3, cells := 0, slots := 0, locals := 70 }) (va_Pc [.ref mo, .int i0, .int i1, .int i2, .int i3] (ny_pre D [(cI, .int), (cZ, .boolean)] [(mo, .inr (4, [.int th, .ref m1, .ref m2, .ref m3, .ref m4, .int mn])), (m1, .inl (cI, 12, .inl hf)), (m2, .inl (cZ, 12, .inl bf))] sz)) (va_Ql (fun (r : Int64) (u : Unit) => r = f_bt (f_rs (i1.toInt64 * (hf i2.toNatClampNeg).toInt64) (hf i3.toNatClampNeg)) 0) (fun (u : Unit) t => ny_at D [(cI, .int), (cZ, .boolean)] (va_A [(mo, .inr (4, [.int th, .ref m1, .ref m2, .ref m3, .ref m4, .int mn])), (m1, .inl (cI, 12, .inl hf)), (m2, .inl (cZ, 12, .inl bf))] sz) [(mo, .inr (4, [.int 0, .ref m1, .ref m2, .ref m3, .ref m4, .int mn])), (m1, .inl (cI, 12, .inl (upd hf i0.toNatClampNeg (f_rs (i1.toInt64 * (hf i2.toNatClampNeg).toInt64) (hf i3.toNatClampNeg))))), (m2, .inl (cZ, 12, .inl (upd bf i0.toNatClampNeg 0)))] t) (va_A [(mo, .inr (4, [.int th, .ref m1, .ref m2, .ref m3, .ref m4, .int mn])), (m1, .inl (cI, 12, .inl hf)), (m2, .inl (cZ, 12, .inl bf))] sz)) 0 0 (va_A [(mo, .inr (4, [.int th, .ref m1, .ref m2, .ref m3, .ref m4, .int mn])), (m1, .inl (cI, 12, .inl hf)), (m2, .inl (cZ, 12, .inl bf))] sz) := by
  refine Met.ofW (cc := cX2_many) (maxL := 5) (ret := (some .long)) (by decide) rfl ?_
  intro p e s m args below meth c s₁ B hml hv
  obtain ⟨rfl, hsz, hP, hK, hD0, hE⟩ := hv
  have hx := B.exec
  have hb := B.bytes
  have hr := B.returns
  have hts := atoms_spec (ws := wsX2_many) B.pre
  have hown : s.vm.findClass RX2 = some m.cls := findClass_of_methodNamed B.named
  have hlocks := B.notSynchronized
  subst hsz
  have hD := hD0.self (sz := s.heap.size)
  generalize hAe : va_A [(mo, .inr (4, [.int th, .ref m1, .ref m2, .ref m3, .ref m4, .int mn])), (m1, .inl (cI, 12, .inl hf)), (m2, .inl (cZ, 12, .inl bf))] s.heap.size = A at hD hE ⊢
  have hA : ∀ q : Nat, s.heap.size ≤ q → A q := fun q h => by rw [← hAe]; exact Or.inr h
  have hS : va_S A s.heap s.heap [] := va_S.rf
  have hl := lv_entry ([.ref mo, .int i0, .int i1, .int i2, .int i3]) (n := 5) (Nat.le_of_ble_eq_true rfl)
  rw [lg_entry_eq]
  generalize (lg_sl ([.ref mo, .int i0, .int i1, .int i2, .int i3]) ++ List.replicate (5 - (lg_sl ([.ref mo, .int i0, .int i1, .int i2, .int i3])).length) Slot.unset).toArray = ls at hl ⊢
  have hl : lv_has ls 5 [(0, .ref mo), (1, .int i0), (2, .int i1), (3, .int i2), (4, .int i3)] := hl
  refine lv_aload_n hx hb dX2_many_0 rfl (lv_at hl 0 rfl) ?_
  refine lv_iload_n hx hb dX2_many_1 rfl (lv_at hl 1 rfl) ?_
  refine lv_iload_n hx hb dX2_many_2 rfl (lv_at hl 3 rfl) ?_
  refine lv_iload_n hx hb dX2_many_3 rfl (lv_at hl 3 rfl) ?_
  refine lv_iload hx hb dX2_many_4 (lv_at hl 4 rfl) ?_
  refine ny_i (wc := [(mo, .inr (4, [.int th, .ref m1, .ref m2, .ref m3, .ref m4, .int mn])), (m1, .inl (cI, 12, .inl hf))]) (wr := [(m2, .inl (cZ, 12, .inl bf))]) hP hD hS hA [0, 1] [2] rfl rfl (by decide) (by decide) (va_runV (As := [.int i0, .int i2, .int i2, .int i3]) (rest := []) ⟨hx, hb, hml, hown, hts⟩ (c_X2_isBad l D cI mo m1 m2 m3 m4 s.heap.size th mn hf i0 i2 i2 i3 (by assumption) (by assumption) (by assumption) (by assumption) (by assumption)) (cwV 4 hts gX2_many_X2_isBad rfl rfl rfl (by decide +kernel) ⟨Nat.le_of_ble_eq_true rfl, Nat.le_of_ble_eq_true rfl⟩) ⟨ny_blind, va_recv hK hP (ci := 4) (q0 := 0) rfl rfl, fun U hU hW => ⟨rfl, ny_preU hE hP hK hD hS hA [0, 1] rfl (by decide) rfl [0] rfl U hU hW⟩⟩ rfl rfl hl.1 rfl (lv_room (Nat.le_of_ble_eq_true rfl)) dX2_many_6 ⟨Nat.le_of_ble_eq_true rfl, Nat.le_of_ble_eq_true rfl⟩) (fun r_6 u H locs hw_6 hP hD hS => ?_)
  have hP : va_P D vwCl [(m2, .inl (cZ, 12, .inl bf)), (mo, .inr (4, [.int 0, .ref m1, .ref m2, .ref m3, .ref m4, .int mn])), (m1, .inl (cI, 12, .inl hf))] H := hP
  have hD : va_D A [(m2, .inl (cZ, 12, .inl bf)), (mo, .inr (4, [.int 0, .ref m1, .ref m2, .ref m3, .ref m4, .int mn])), (m1, .inl (cI, 12, .inl hf))] := hD
  have hw_6 : r_6 = 0 := hw_6
  subst hw_6
  refine lv_if_eq (tgt := 16) hx hb dX2_many_9 (by decide) (fun c_9 => ?_) (fun c_9 => absurd (show (0 : Int32) = 0 by  decide) c_9)
  refine lv_aload_n hx hb dX2_many_16 rfl (lv_at hl 0 rfl) ?_
  refine lv_iload_n hx hb dX2_many_17 rfl (lv_at hl 1 rfl) ?_
  refine lv_iload_n hx hb dX2_many_18 rfl (lv_at hl 2 rfl) ?_
  refine lv_i2l hx hb dX2_many_19 rfl ?_
  refine lv_aload_n hx hb dX2_many_20 rfl (lv_at hl 0 rfl) ?_
  refine va_get (D := D) (ci := 4) (v := .ref m1) (C := RX2) (T := TX2) (N := 6) hx hb hts in_X2_many_X2 hown hK hP 1 rfl rfl 1 (by decide) (hts (.fieldLink RX2 7 "NearestclockModel" "eighths" "[I") (List.mem_of_getElem? (i := 1) rfl)) (fun _ h9 => h9) rfl dX2_many_21 ?_
  refine lv_iload_n hx hb dX2_many_24 rfl (lv_at hl 3 rfl) ?_
  refine va_iald hx hb hK hP 2 0 rfl rfl (by assumption) dX2_many_25 ?_
  refine lv_i2l hx hb dX2_many_26 rfl ?_
  refine lv_lmul hx hb dX2_many_27 ?_
  refine lv_aload_n hx hb dX2_many_28 rfl (lv_at hl 0 rfl) ?_
  refine va_get (D := D) (ci := 4) (v := .ref m1) (C := RX2) (T := TX2) (N := 6) hx hb hts in_X2_many_X2 hown hK hP 1 rfl rfl 1 (by decide) (hts (.fieldLink RX2 7 "NearestclockModel" "eighths" "[I") (List.mem_of_getElem? (i := 1) rfl)) (fun _ h9 => h9) rfl dX2_many_29 ?_
  refine lv_iload hx hb dX2_many_32 (lv_at hl 4 rfl) ?_
  refine va_iald hx hb hK hP 2 0 rfl rfl (by assumption) dX2_many_34 ?_
  refine vp_callSi (va_Run.run (va_runS (As := [.long (i1.toInt64 * ((hf i2.toNatClampNeg).toInt64)), .int (hf i3.toNatClampNeg)]) (rest := [.int i0, .ref mo]) ⟨hx, hb, hml, hown, hts⟩ (c_X2_residueOf l (i1.toInt64 * ((hf i2.toNatClampNeg).toInt64)) (hf i3.toNatClampNeg) (gH _ (n_ix gp3)) (by assumption) (n_many i1 (gH _ (n_ix gp2))).2) (va_cwS 2 hts gX2_many_X2_residueOf rfl rfl rfl (by decide +kernel) ⟨Nat.le_of_ble_eq_true rfl, Nat.le_of_ble_eq_true rfl⟩) ⟨ny_blindT, fun U hU hW => ⟨rfl, trivial⟩⟩ rfl rfl hl.1 rfl (lv_room (Nat.le_of_ble_eq_true rfl)) dX2_many_35 ⟨Nat.le_of_ble_eq_true rfl, Nat.le_of_ble_eq_true rfl⟩)) (fun r_35 hw_35 => ?_)
  have hw_35 : r_35 = f_rs (i1.toInt64 * ((hf i2.toNatClampNeg).toInt64)) (hf i3.toNatClampNeg) := hw_35
  subst hw_35
  refine lv_iconst (v := 0) hx hb dX2_many_38 (by decide) ?_
  refine ny_l (wc := [(mo, .inr (4, [.int 0, .ref m1, .ref m2, .ref m3, .ref m4, .int mn])), (m1, .inl (cI, 12, .inl hf)), (m2, .inl (cZ, 12, .inl bf))]) (wr := []) hP hD hS hA [1, 2, 0] [] rfl rfl (by decide) (by decide) (va_runV (As := [.int i0, .int (f_rs (i1.toInt64 * ((hf i2.toNatClampNeg).toInt64)) (hf i3.toNatClampNeg)), .int 0]) (rest := []) ⟨hx, hb, hml, hown, hts⟩ (c_X2_lays l D cI cZ mo m1 m2 m3 m4 H.size 0 mn hf bf i0 (f_rs (i1.toInt64 * ((hf i2.toNatClampNeg).toInt64)) (hf i3.toNatClampNeg)) 0 (by assumption) (ny_R_rs (gH _ (n_ix gp3)) g0) (Or.inl rfl)) (cwV 3 hts gX2_many_X2_lays rfl rfl rfl (by decide +kernel) ⟨Nat.le_of_ble_eq_true rfl, Nat.le_of_ble_eq_true rfl⟩) ⟨ny_blind, va_recv hK hP (ci := 4) (q0 := 1) rfl rfl, fun U hU hW => ⟨rfl, ny_preU hE hP hK hD hS hA [1, 2, 0] rfl (by decide) rfl [0, 1] rfl U hU hW⟩⟩ rfl rfl hl.1 rfl (lv_room (Nat.le_of_ble_eq_true rfl)) dX2_many_39 ⟨Nat.le_of_ble_eq_true rfl, Nat.le_of_ble_eq_true rfl⟩) (fun r_39 u H locs hw_39 hP hD hS => ?_)
  have hP : va_P D vwCl [(mo, .inr (4, [.int 0, .ref m1, .ref m2, .ref m3, .ref m4, .int mn])), (m1, .inl (cI, 12, .inl (upd hf i0.toNatClampNeg (f_rs (i1.toInt64 * ((hf i2.toNatClampNeg).toInt64)) (hf i3.toNatClampNeg))))), (m2, .inl (cZ, 12, .inl (upd bf i0.toNatClampNeg (f_z (f_rs (i1.toInt64 * ((hf i2.toNatClampNeg).toInt64)) (hf i3.toNatClampNeg)) 0))))] H := hP
  have hD : va_D A [(mo, .inr (4, [.int 0, .ref m1, .ref m2, .ref m3, .ref m4, .int mn])), (m1, .inl (cI, 12, .inl (upd hf i0.toNatClampNeg (f_rs (i1.toInt64 * ((hf i2.toNatClampNeg).toInt64)) (hf i3.toNatClampNeg))))), (m2, .inl (cZ, 12, .inl (upd bf i0.toNatClampNeg (f_z (f_rs (i1.toInt64 * ((hf i2.toNatClampNeg).toInt64)) (hf i3.toNatClampNeg)) 0))))] := hD
  have hw_39 : r_39 = f_bt (f_rs (i1.toInt64 * ((hf i2.toNatClampNeg).toInt64)) (hf i3.toNatClampNeg)) 0 := hw_39
  subst hw_39
  have hP9 := hP.sub (ws' := [(mo, .inr (4, [.int 0, .ref m1, .ref m2, .ref m3, .ref m4, .int mn])), (m1, .inl (cI, 12, .inl (upd hf i0.toNatClampNeg (f_rs (i1.toInt64 * ((hf i2.toNatClampNeg).toInt64)) (hf i3.toNatClampNeg))))), (m2, .inl (cZ, 12, .inl (upd bf i0.toNatClampNeg (f_z (f_rs (i1.toInt64 * ((hf i2.toNatClampNeg).toInt64)) (hf i3.toNatClampNeg)) 0))))]) [0, 1, 2] rfl
  have hD9 := hD.sub (ws' := [(mo, .inr (4, [.int 0, .ref m1, .ref m2, .ref m3, .ref m4, .int mn])), (m1, .inl (cI, 12, .inl (upd hf i0.toNatClampNeg (f_rs (i1.toInt64 * ((hf i2.toNatClampNeg).toInt64)) (hf i3.toNatClampNeg))))), (m2, .inl (cZ, 12, .inl (upd bf i0.toNatClampNeg (f_z (f_rs (i1.toInt64 * ((hf i2.toNatClampNeg).toInt64)) (hf i3.toNatClampNeg)) 0))))]) [0, 1, 2] (by decide) rfl
  rw [f_z_0] at hP9 hD9
  exact W.lret (v := f_bt (f_rs (i1.toInt64 * ((hf i2.toNatClampNeg).toInt64)) (hf i3.toNatClampNeg)) 0) hx hb hr (fun t ht hW => ⟨⟨f_bt (f_rs (i1.toInt64 * ((hf i2.toNatClampNeg).toInt64)) (hf i3.toNatClampNeg)) 0, (), rfl, (rfl), by rw [ht]; exact hP9, va_K.moved hW.alike hK, hD9⟩, hS.F ht⟩) hS.2.2 dX2_many_42
set_option maxHeartbeats 4000000 in
set_option maxRecDepth 100000 in
theorem c_X2_many_noP (l : Launch) (D : va_G) (cI : ClassId) (cZ : ClassId) (mo : Nat) (m1 : Nat) (m2 : Nat) (m3 : Nat) (m4 : Nat) (sz : Nat) (th : Int32) (mn : Int32) (hf : Nat → Int32) (bf : Nat → Int32) (i0 : Int32) (i1 : Int32) (i2 : Int32) (i3 : Int32) (gb : ¬ vp_in i0 12 ∨ (¬ vp_in i2 12 ∨ ¬ vp_in i3 12)) : Met l yX2_many wsX2_many ({ frames := 2, cells := 0, slots := 0, locals := 46 }) (va_Pc [.ref mo, .int i0, .int i1, .int i2, .int i3] (ny_pre D [(cI, .int), (cZ, .boolean)] [(mo, .inr (4, [.int th, .ref m1, .ref m2, .ref m3, .ref m4, .int mn])), (m1, .inl (cI, 12, .inl hf)), (m2, .inl (cZ, 12, .inl bf))] sz)) (va_Ql (fun (r : Int64) (u : Unit) => r = 0) (fun (u : Unit) t => ny_at D [(cI, .int), (cZ, .boolean)] (va_A [(mo, .inr (4, [.int th, .ref m1, .ref m2, .ref m3, .ref m4, .int mn])), (m1, .inl (cI, 12, .inl hf)), (m2, .inl (cZ, 12, .inl bf))] sz) [(mo, .inr (4, [.int 1, .ref m1, .ref m2, .ref m3, .ref m4, .int mn])), (m1, .inl (cI, 12, .inl hf)), (m2, .inl (cZ, 12, .inl bf))] t) (va_A [(mo, .inr (4, [.int th, .ref m1, .ref m2, .ref m3, .ref m4, .int mn])), (m1, .inl (cI, 12, .inl hf)), (m2, .inl (cZ, 12, .inl bf))] sz)) 0 0 (va_A [(mo, .inr (4, [.int th, .ref m1, .ref m2, .ref m3, .ref m4, .int mn])), (m1, .inl (cI, 12, .inl hf)), (m2, .inl (cZ, 12, .inl bf))] sz) := by
  refine Met.ofW (cc := cX2_many) (maxL := 5) (ret := (some .long)) (by decide) rfl ?_
  intro p e s m args below meth c s₁ B hml hv
  obtain ⟨rfl, hsz, hP, hK, hD0, hE⟩ := hv
  have hx := B.exec
  have hb := B.bytes
  have hr := B.returns
  have hts := atoms_spec (ws := wsX2_many) B.pre
  have hown : s.vm.findClass RX2 = some m.cls := findClass_of_methodNamed B.named
  have hlocks := B.notSynchronized
  subst hsz
  have hD := hD0.self (sz := s.heap.size)
  generalize hAe : va_A [(mo, .inr (4, [.int th, .ref m1, .ref m2, .ref m3, .ref m4, .int mn])), (m1, .inl (cI, 12, .inl hf)), (m2, .inl (cZ, 12, .inl bf))] s.heap.size = A at hD hE ⊢
  have hA : ∀ q : Nat, s.heap.size ≤ q → A q := fun q h => by rw [← hAe]; exact Or.inr h
  have hS : va_S A s.heap s.heap [] := va_S.rf
  have hl := lv_entry ([.ref mo, .int i0, .int i1, .int i2, .int i3]) (n := 5) (Nat.le_of_ble_eq_true rfl)
  rw [lg_entry_eq]
  generalize (lg_sl ([.ref mo, .int i0, .int i1, .int i2, .int i3]) ++ List.replicate (5 - (lg_sl ([.ref mo, .int i0, .int i1, .int i2, .int i3])).length) Slot.unset).toArray = ls at hl ⊢
  have hl : lv_has ls 5 [(0, .ref mo), (1, .int i0), (2, .int i1), (3, .int i2), (4, .int i3)] := hl
  refine lv_aload_n hx hb dX2_many_0 rfl (lv_at hl 0 rfl) ?_
  refine lv_iload_n hx hb dX2_many_1 rfl (lv_at hl 1 rfl) ?_
  refine lv_iload_n hx hb dX2_many_2 rfl (lv_at hl 3 rfl) ?_
  refine lv_iload_n hx hb dX2_many_3 rfl (lv_at hl 3 rfl) ?_
  refine lv_iload hx hb dX2_many_4 (lv_at hl 4 rfl) ?_
  refine ny_i (wc := [(mo, .inr (4, [.int th, .ref m1, .ref m2, .ref m3, .ref m4, .int mn])), (m1, .inl (cI, 12, .inl hf))]) (wr := [(m2, .inl (cZ, 12, .inl bf))]) hP hD hS hA [0, 1] [2] rfl rfl (by decide) (by decide) (va_runV (As := [.int i0, .int i2, .int i2, .int i3]) (rest := []) ⟨hx, hb, hml, hown, hts⟩ (c_X2_isBad_noP l D cI mo m1 m2 m3 m4 s.heap.size th mn hf i0 i2 i2 i3 (by rcases gb with h | h | h <;> simp [h])) (cwV 4 hts gX2_many_X2_isBad rfl rfl rfl (by decide +kernel) ⟨Nat.le_of_ble_eq_true rfl, Nat.le_of_ble_eq_true rfl⟩) ⟨ny_blind, va_recv hK hP (ci := 4) (q0 := 0) rfl rfl, fun U hU hW => ⟨rfl, ny_preU hE hP hK hD hS hA [0, 1] rfl (by decide) rfl [0] rfl U hU hW⟩⟩ rfl rfl hl.1 rfl (lv_room (Nat.le_of_ble_eq_true rfl)) dX2_many_6 ⟨Nat.le_of_ble_eq_true rfl, Nat.le_of_ble_eq_true rfl⟩) (fun r_6 u H locs hw_6 hP hD hS => ?_)
  have hP : va_P D vwCl [(m2, .inl (cZ, 12, .inl bf)), (mo, .inr (4, [.int 1, .ref m1, .ref m2, .ref m3, .ref m4, .int mn])), (m1, .inl (cI, 12, .inl hf))] H := hP
  have hD : va_D A [(m2, .inl (cZ, 12, .inl bf)), (mo, .inr (4, [.int 1, .ref m1, .ref m2, .ref m3, .ref m4, .int mn])), (m1, .inl (cI, 12, .inl hf))] := hD
  have hw_6 : r_6 = 1 := hw_6
  subst hw_6
  refine lv_if_eq (tgt := 16) hx hb dX2_many_9 (by decide) (fun c_9 => absurd c_9 (show ¬ ((1 : Int32) = 0) by  decide)) (fun c_9 => ?_)
  refine lv_lconst (v := 0) hx hb dX2_many_12 (by decide) ?_
  refine lv_goto (tgt := 42) hx hb dX2_many_13 (by decide) ?_
  have hP9 := hP.sub (ws' := [(mo, .inr (4, [.int 1, .ref m1, .ref m2, .ref m3, .ref m4, .int mn])), (m1, .inl (cI, 12, .inl hf)), (m2, .inl (cZ, 12, .inl bf))]) [1, 2, 0] rfl
  have hD9 := hD.sub (ws' := [(mo, .inr (4, [.int 1, .ref m1, .ref m2, .ref m3, .ref m4, .int mn])), (m1, .inl (cI, 12, .inl hf)), (m2, .inl (cZ, 12, .inl bf))]) [1, 2, 0] (by decide) rfl
  exact W.lret (v := 0) hx hb hr (fun t ht hW => ⟨⟨0, (), rfl, (rfl), by rw [ht]; exact hP9, va_K.moved hW.alike hK, hD9⟩, hS.F ht⟩) hS.2.2 dX2_many_42
set_option maxHeartbeats 4000000 in
set_option maxRecDepth 100000 in
theorem c_X2_many_no0 (l : Launch) (D : va_G) (cI : ClassId) (cZ : ClassId) (mo : Nat) (m1 : Nat) (m2 : Nat) (m3 : Nat) (m4 : Nat) (sz : Nat) (th : Int32) (mn : Int32) (hf : Nat → Int32) (bf : Nat → Int32) (i0 : Int32) (i1 : Int32) (i2 : Int32) (i3 : Int32) (gp0 : vp_in i0 12) (gp2 : vp_in i2 12) (gp3 : vp_in i3 12) (g0 : hf i3.toNatClampNeg = 0) : Met l yX2_many wsX2_many ({ frames := 2, cells := 0, slots := 0, locals := 46 }) (va_Pc [.ref mo, .int i0, .int i1, .int i2, .int i3] (ny_pre D [(cI, .int), (cZ, .boolean)] [(mo, .inr (4, [.int th, .ref m1, .ref m2, .ref m3, .ref m4, .int mn])), (m1, .inl (cI, 12, .inl hf)), (m2, .inl (cZ, 12, .inl bf))] sz)) (va_Ql (fun (r : Int64) (u : Unit) => r = 0) (fun (u : Unit) t => ny_at D [(cI, .int), (cZ, .boolean)] (va_A [(mo, .inr (4, [.int th, .ref m1, .ref m2, .ref m3, .ref m4, .int mn])), (m1, .inl (cI, 12, .inl hf)), (m2, .inl (cZ, 12, .inl bf))] sz) [(mo, .inr (4, [.int 2, .ref m1, .ref m2, .ref m3, .ref m4, .int mn])), (m1, .inl (cI, 12, .inl hf)), (m2, .inl (cZ, 12, .inl bf))] t) (va_A [(mo, .inr (4, [.int th, .ref m1, .ref m2, .ref m3, .ref m4, .int mn])), (m1, .inl (cI, 12, .inl hf)), (m2, .inl (cZ, 12, .inl bf))] sz)) 0 0 (va_A [(mo, .inr (4, [.int th, .ref m1, .ref m2, .ref m3, .ref m4, .int mn])), (m1, .inl (cI, 12, .inl hf)), (m2, .inl (cZ, 12, .inl bf))] sz) := by
  refine Met.ofW (cc := cX2_many) (maxL := 5) (ret := (some .long)) (by decide) rfl ?_
  intro p e s m args below meth c s₁ B hml hv
  obtain ⟨rfl, hsz, hP, hK, hD0, hE⟩ := hv
  have hx := B.exec
  have hb := B.bytes
  have hr := B.returns
  have hts := atoms_spec (ws := wsX2_many) B.pre
  have hown : s.vm.findClass RX2 = some m.cls := findClass_of_methodNamed B.named
  have hlocks := B.notSynchronized
  subst hsz
  have hD := hD0.self (sz := s.heap.size)
  generalize hAe : va_A [(mo, .inr (4, [.int th, .ref m1, .ref m2, .ref m3, .ref m4, .int mn])), (m1, .inl (cI, 12, .inl hf)), (m2, .inl (cZ, 12, .inl bf))] s.heap.size = A at hD hE ⊢
  have hA : ∀ q : Nat, s.heap.size ≤ q → A q := fun q h => by rw [← hAe]; exact Or.inr h
  have hS : va_S A s.heap s.heap [] := va_S.rf
  have hl := lv_entry ([.ref mo, .int i0, .int i1, .int i2, .int i3]) (n := 5) (Nat.le_of_ble_eq_true rfl)
  rw [lg_entry_eq]
  generalize (lg_sl ([.ref mo, .int i0, .int i1, .int i2, .int i3]) ++ List.replicate (5 - (lg_sl ([.ref mo, .int i0, .int i1, .int i2, .int i3])).length) Slot.unset).toArray = ls at hl ⊢
  have hl : lv_has ls 5 [(0, .ref mo), (1, .int i0), (2, .int i1), (3, .int i2), (4, .int i3)] := hl
  refine lv_aload_n hx hb dX2_many_0 rfl (lv_at hl 0 rfl) ?_
  refine lv_iload_n hx hb dX2_many_1 rfl (lv_at hl 1 rfl) ?_
  refine lv_iload_n hx hb dX2_many_2 rfl (lv_at hl 3 rfl) ?_
  refine lv_iload_n hx hb dX2_many_3 rfl (lv_at hl 3 rfl) ?_
  refine lv_iload hx hb dX2_many_4 (lv_at hl 4 rfl) ?_
  refine ny_i (wc := [(mo, .inr (4, [.int th, .ref m1, .ref m2, .ref m3, .ref m4, .int mn])), (m1, .inl (cI, 12, .inl hf))]) (wr := [(m2, .inl (cZ, 12, .inl bf))]) hP hD hS hA [0, 1] [2] rfl rfl (by decide) (by decide) (va_runV (As := [.int i0, .int i2, .int i2, .int i3]) (rest := []) ⟨hx, hb, hml, hown, hts⟩ (c_X2_isBad_no0 l D cI mo m1 m2 m3 m4 s.heap.size th mn hf i0 i2 i2 i3 (by assumption) (by assumption) (by assumption) (by assumption) (by assumption)) (cwV 4 hts gX2_many_X2_isBad rfl rfl rfl (by decide +kernel) ⟨Nat.le_of_ble_eq_true rfl, Nat.le_of_ble_eq_true rfl⟩) ⟨ny_blind, va_recv hK hP (ci := 4) (q0 := 0) rfl rfl, fun U hU hW => ⟨rfl, ny_preU hE hP hK hD hS hA [0, 1] rfl (by decide) rfl [0] rfl U hU hW⟩⟩ rfl rfl hl.1 rfl (lv_room (Nat.le_of_ble_eq_true rfl)) dX2_many_6 ⟨Nat.le_of_ble_eq_true rfl, Nat.le_of_ble_eq_true rfl⟩) (fun r_6 u H locs hw_6 hP hD hS => ?_)
  have hP : va_P D vwCl [(m2, .inl (cZ, 12, .inl bf)), (mo, .inr (4, [.int 2, .ref m1, .ref m2, .ref m3, .ref m4, .int mn])), (m1, .inl (cI, 12, .inl hf))] H := hP
  have hD : va_D A [(m2, .inl (cZ, 12, .inl bf)), (mo, .inr (4, [.int 2, .ref m1, .ref m2, .ref m3, .ref m4, .int mn])), (m1, .inl (cI, 12, .inl hf))] := hD
  have hw_6 : r_6 = 1 := hw_6
  subst hw_6
  refine lv_if_eq (tgt := 16) hx hb dX2_many_9 (by decide) (fun c_9 => absurd c_9 (show ¬ ((1 : Int32) = 0) by  decide)) (fun c_9 => ?_)
  refine lv_lconst (v := 0) hx hb dX2_many_12 (by decide) ?_
  refine lv_goto (tgt := 42) hx hb dX2_many_13 (by decide) ?_
  have hP9 := hP.sub (ws' := [(mo, .inr (4, [.int 2, .ref m1, .ref m2, .ref m3, .ref m4, .int mn])), (m1, .inl (cI, 12, .inl hf)), (m2, .inl (cZ, 12, .inl bf))]) [1, 2, 0] rfl
  have hD9 := hD.sub (ws' := [(mo, .inr (4, [.int 2, .ref m1, .ref m2, .ref m3, .ref m4, .int mn])), (m1, .inl (cI, 12, .inl hf)), (m2, .inl (cZ, 12, .inl bf))]) [1, 2, 0] (by decide) rfl
  exact W.lret (v := 0) hx hb hr (fun t ht hW => ⟨⟨0, (), rfl, (rfl), by rw [ht]; exact hP9, va_K.moved hW.alike hK, hD9⟩, hS.F ht⟩) hS.2.2 dX2_many_42
theorem in_X2_power_X2 : ∀ w ∈ wsX20, w ∈ wsX2_power := (fun _ h => List.mem_cons_of_mem _ (List.mem_append_left _ (List.mem_append_left _ (List.mem_append_right _ h))))
set_option maxHeartbeats 4000000 in
set_option maxRecDepth 100000 in
theorem c_X2_power (l : Launch) (D : va_G) (cI : ClassId) (cZ : ClassId) (mo : Nat) (m1 : Nat) (m2 : Nat) (m3 : Nat) (m4 : Nat) (sz : Nat) (th : Int32) (mn : Int32) (hf : Nat → Int32) (bf : Nat → Int32) (i0 : Int32) (i1 : Int32) (i2 : Int32) (i3 : Int32) (gp0 : vp_in i0 12) (gp1 : vp_in i1 12) (gp3 : vp_in i3 12) (gn : 0 ≤ i2.toInt ∧ i2.toInt ≤ 1000) (g0 : ¬ hf i3.toNatClampNeg = 0) (gH : ny_H hf) : Met l yX2_power wsX2_power ({ frames := 3, cells := 0, slots := 0, locals := 70 }) (va_Pc [.ref mo, .int i0, .int i1, .int i2, .int i3] (ny_pre D [(cI, .int), (cZ, .boolean)] [(mo, .inr (4, [.int th, .ref m1, .ref m2, .ref m3, .ref m4, .int mn])), (m1, .inl (cI, 12, .inl hf)), (m2, .inl (cZ, 12, .inl bf))] sz)) (va_Ql (fun (r : Int64) (u : Unit) => r = f_bt (f_pw (hf i1.toNatClampNeg) i2 (hf i3.toNatClampNeg)) 0) (fun (u : Unit) t => ny_at D [(cI, .int), (cZ, .boolean)] (va_A [(mo, .inr (4, [.int th, .ref m1, .ref m2, .ref m3, .ref m4, .int mn])), (m1, .inl (cI, 12, .inl hf)), (m2, .inl (cZ, 12, .inl bf))] sz) [(mo, .inr (4, [.int 0, .ref m1, .ref m2, .ref m3, .ref m4, .int mn])), (m1, .inl (cI, 12, .inl (upd hf i0.toNatClampNeg (f_pw (hf i1.toNatClampNeg) i2 (hf i3.toNatClampNeg))))), (m2, .inl (cZ, 12, .inl (upd bf i0.toNatClampNeg 0)))] t) (va_A [(mo, .inr (4, [.int th, .ref m1, .ref m2, .ref m3, .ref m4, .int mn])), (m1, .inl (cI, 12, .inl hf)), (m2, .inl (cZ, 12, .inl bf))] sz)) 0 0 (va_A [(mo, .inr (4, [.int th, .ref m1, .ref m2, .ref m3, .ref m4, .int mn])), (m1, .inl (cI, 12, .inl hf)), (m2, .inl (cZ, 12, .inl bf))] sz) := by
  refine Met.ofW (cc := cX2_power) (maxL := 8) (ret := (some .long)) (by decide) rfl ?_
  intro p e s m args below meth c s₁ B hml hv
  obtain ⟨rfl, hsz, hP, hK, hD0, hE⟩ := hv
  have hx := B.exec
  have hb := B.bytes
  have hr := B.returns
  have hts := atoms_spec (ws := wsX2_power) B.pre
  have hown : s.vm.findClass RX2 = some m.cls := findClass_of_methodNamed B.named
  have hlocks := B.notSynchronized
  subst hsz
  have hD := hD0.self (sz := s.heap.size)
  generalize hAe : va_A [(mo, .inr (4, [.int th, .ref m1, .ref m2, .ref m3, .ref m4, .int mn])), (m1, .inl (cI, 12, .inl hf)), (m2, .inl (cZ, 12, .inl bf))] s.heap.size = A at hD hE ⊢
  have hA : ∀ q : Nat, s.heap.size ≤ q → A q := fun q h => by rw [← hAe]; exact Or.inr h
  have hS : va_S A s.heap s.heap [] := va_S.rf
  have hl := lv_entry ([.ref mo, .int i0, .int i1, .int i2, .int i3]) (n := 8) (Nat.le_of_ble_eq_true rfl)
  rw [lg_entry_eq]
  generalize (lg_sl ([.ref mo, .int i0, .int i1, .int i2, .int i3]) ++ List.replicate (8 - (lg_sl ([.ref mo, .int i0, .int i1, .int i2, .int i3])).length) Slot.unset).toArray = ls at hl ⊢
  have hl : lv_has ls 8 [(0, .ref mo), (1, .int i0), (2, .int i1), (3, .int i2), (4, .int i3)] := hl
  refine lv_aload_n hx hb dX2_power_0 rfl (lv_at hl 0 rfl) ?_
  refine lv_iload_n hx hb dX2_power_1 rfl (lv_at hl 1 rfl) ?_
  refine vp_callSi (va_Run.run (va_runS (As := [.int i0]) (rest := [.ref mo]) ⟨hx, hb, hml, hown, hts⟩ (c_X2_isPlace l i0 (by assumption)) (va_cwS 1 hts gX2_power_X2_isPlace rfl rfl rfl (by decide +kernel) ⟨Nat.le_of_ble_eq_true rfl, Nat.le_of_ble_eq_true rfl⟩) ⟨ny_blindT, fun U hU hW => ⟨rfl, trivial⟩⟩ rfl rfl hl.1 rfl (lv_room (Nat.le_of_ble_eq_true rfl)) dX2_power_2 ⟨Nat.le_of_ble_eq_true rfl, Nat.le_of_ble_eq_true rfl⟩)) (fun r_2 hw_2 => ?_)
  have hw_2 : r_2 = 1 := hw_2
  subst hw_2
  refine lv_if_eq (tgt := 23) hx hb dX2_power_5 (by decide) (fun c_5 => absurd c_5 (show ¬ ((1 : Int32) = 0) by  decide)) (fun c_5 => ?_)
  refine lv_iload_n hx hb dX2_power_8 rfl (lv_at hl 2 rfl) ?_
  refine vp_callSi (va_Run.run (va_runS (As := [.int i1]) (rest := [.ref mo]) ⟨hx, hb, hml, hown, hts⟩ (c_X2_isPlace l i1 (by assumption)) (va_cwS 1 hts gX2_power_X2_isPlace rfl rfl rfl (by decide +kernel) ⟨Nat.le_of_ble_eq_true rfl, Nat.le_of_ble_eq_true rfl⟩) ⟨ny_blindT, fun U hU hW => ⟨rfl, trivial⟩⟩ rfl rfl hl.1 rfl (lv_room (Nat.le_of_ble_eq_true rfl)) dX2_power_9 ⟨Nat.le_of_ble_eq_true rfl, Nat.le_of_ble_eq_true rfl⟩)) (fun r_9 hw_9 => ?_)
  have hw_9 : r_9 = 1 := hw_9
  subst hw_9
  refine lv_if_eq (tgt := 23) hx hb dX2_power_12 (by decide) (fun c_12 => absurd c_12 (show ¬ ((1 : Int32) = 0) by  decide)) (fun c_12 => ?_)
  refine lv_iload hx hb dX2_power_15 (lv_at hl 4 rfl) ?_
  refine vp_callSi (va_Run.run (va_runS (As := [.int i3]) (rest := [.ref mo]) ⟨hx, hb, hml, hown, hts⟩ (c_X2_isPlace l i3 (by assumption)) (va_cwS 1 hts gX2_power_X2_isPlace rfl rfl rfl (by decide +kernel) ⟨Nat.le_of_ble_eq_true rfl, Nat.le_of_ble_eq_true rfl⟩) ⟨ny_blindT, fun U hU hW => ⟨rfl, trivial⟩⟩ rfl rfl hl.1 rfl (lv_room (Nat.le_of_ble_eq_true rfl)) dX2_power_17 ⟨Nat.le_of_ble_eq_true rfl, Nat.le_of_ble_eq_true rfl⟩)) (fun r_17 hw_17 => ?_)
  have hw_17 : r_17 = 1 := hw_17
  subst hw_17
  refine lv_if_ne (tgt := 27) hx hb dX2_power_20 (by decide) (fun c_20 => ?_) (fun c_20 => absurd c_20 (show ¬ ((1 : Int32) = 0) by  decide))
  refine lv_iconst (v := 0) hx hb dX2_power_27 (by decide) ?_
  refine lv_iconst (v := 1) hx hb dX2_power_28 (by decide) ?_
  refine ny_i (wc := [(mo, .inr (4, [.int th, .ref m1, .ref m2, .ref m3, .ref m4, .int mn]))]) (wr := [(m1, .inl (cI, 12, .inl hf)), (m2, .inl (cZ, 12, .inl bf))]) hP hD hS hA [0] [1, 2] rfl rfl (by decide) (by decide) (va_runV (As := [.int 0, .int 1]) (rest := []) ⟨hx, hb, hml, hown, hts⟩ (c_X2_isThrown_0 l D mo m1 m2 m3 m4 s.heap.size th mn 1) (cwV 2 hts gX2_power_X2_isThrown rfl rfl rfl (by decide +kernel) ⟨Nat.le_of_ble_eq_true rfl, Nat.le_of_ble_eq_true rfl⟩) ⟨ny_blind, va_recv hK hP (ci := 4) (q0 := 0) rfl rfl, fun U hU hW => ⟨rfl, ny_preU hE hP hK hD hS hA [0] rfl (by decide) rfl [] rfl U hU hW⟩⟩ rfl rfl hl.1 rfl (lv_room (Nat.le_of_ble_eq_true rfl)) dX2_power_29 ⟨Nat.le_of_ble_eq_true rfl, Nat.le_of_ble_eq_true rfl⟩) (fun r_29 u H locs hw_29 hP hD hS => ?_)
  have hP : va_P D vwCl [(m1, .inl (cI, 12, .inl hf)), (m2, .inl (cZ, 12, .inl bf)), (mo, .inr (4, [.int 0, .ref m1, .ref m2, .ref m3, .ref m4, .int mn]))] H := hP
  have hD : va_D A [(m1, .inl (cI, 12, .inl hf)), (m2, .inl (cZ, 12, .inl bf)), (mo, .inr (4, [.int 0, .ref m1, .ref m2, .ref m3, .ref m4, .int mn]))] := hD
  have hw_29 : r_29 = 0 := hw_29
  subst hw_29
  refine lv_if_ne (tgt := 82) hx hb dX2_power_32 (by decide) (fun c_32 => absurd (show (0 : Int32) = 0 by  decide) c_32) (fun c_32 => ?_)
  refine lv_aload_n hx hb dX2_power_35 rfl (lv_at hl 0 rfl) ?_
  refine lv_iload_n hx hb dX2_power_36 rfl (lv_at hl 3 rfl) ?_
  refine lv_if_lt (tgt := 47) hx hb dX2_power_37 (by decide) (fun c_37 => absurd c_37 (show ¬ ((i2 : Int32) < 0) by  rw [fa_lt, ny_z0]; omega)) (fun c_37 => ?_)
  refine lv_iload_n hx hb dX2_power_40 rfl (lv_at hl 3 rfl) ?_
  refine lv_sipush (v := 1000) hx hb dX2_power_41 (by decide) ?_
  refine lv_icmp_le (tgt := 51) hx hb dX2_power_44 (by decide) (fun c_44 => ?_) (fun c_44 => absurd (show (i2 : Int32) ≤ 1000 by  have z : (1000 : Int32).toInt = 1000 := rfl; rw [fa_le]; omega) c_44)
  refine lv_iconst (v := 0) hx hb dX2_power_51 (by decide) ?_
  refine lv_iconst (v := 2) hx hb dX2_power_52 (by decide) ?_
  refine ny_i (wc := [(mo, .inr (4, [.int 0, .ref m1, .ref m2, .ref m3, .ref m4, .int mn]))]) (wr := [(m1, .inl (cI, 12, .inl hf)), (m2, .inl (cZ, 12, .inl bf))]) hP hD hS hA [2] [0, 1] rfl rfl (by decide) (by decide) (va_runV (As := [.int 0, .int 2]) (rest := []) ⟨hx, hb, hml, hown, hts⟩ (c_X2_isThrown_0 l D mo m1 m2 m3 m4 H.size 0 mn 2) (cwV 2 hts gX2_power_X2_isThrown rfl rfl rfl (by decide +kernel) ⟨Nat.le_of_ble_eq_true rfl, Nat.le_of_ble_eq_true rfl⟩) ⟨ny_blind, va_recv hK hP (ci := 4) (q0 := 2) rfl rfl, fun U hU hW => ⟨rfl, ny_preU hE hP hK hD hS hA [2] rfl (by decide) rfl [] rfl U hU hW⟩⟩ rfl rfl hl.1 rfl (lv_room (Nat.le_of_ble_eq_true rfl)) dX2_power_53 ⟨Nat.le_of_ble_eq_true rfl, Nat.le_of_ble_eq_true rfl⟩) (fun r_53 u H locs hw_53 hP hD hS => ?_)
  have hP : va_P D vwCl [(m1, .inl (cI, 12, .inl hf)), (m2, .inl (cZ, 12, .inl bf)), (mo, .inr (4, [.int 0, .ref m1, .ref m2, .ref m3, .ref m4, .int mn]))] H := hP
  have hD : va_D A [(m1, .inl (cI, 12, .inl hf)), (m2, .inl (cZ, 12, .inl bf)), (mo, .inr (4, [.int 0, .ref m1, .ref m2, .ref m3, .ref m4, .int mn]))] := hD
  have hw_53 : r_53 = 0 := hw_53
  subst hw_53
  refine lv_if_ne (tgt := 82) hx hb dX2_power_56 (by decide) (fun c_56 => absurd (show (0 : Int32) = 0 by  decide) c_56) (fun c_56 => ?_)
  refine lv_aload_n hx hb dX2_power_59 rfl (lv_at hl 0 rfl) ?_
  refine lv_aload_n hx hb dX2_power_60 rfl (lv_at hl 0 rfl) ?_
  refine va_get (D := D) (ci := 4) (v := .ref m1) (C := RX2) (T := TX2) (N := 6) hx hb hts in_X2_power_X2 hown hK hP 2 rfl rfl 1 (by decide) (hts (.fieldLink RX2 7 "NearestclockModel" "eighths" "[I") (List.mem_of_getElem? (i := 1) rfl)) (fun _ h9 => h9) rfl dX2_power_61 ?_
  refine lv_iload hx hb dX2_power_64 (lv_at hl 4 rfl) ?_
  refine va_iald hx hb hK hP 0 0 rfl rfl (by assumption) dX2_power_66 ?_
  refine lv_if_ne (tgt := 74) hx hb dX2_power_67 (by decide) (fun c_67 => ?_) (fun c_67 => absurd c_67 (show ¬ (((hf i3.toNatClampNeg) : Int32) = 0) from g0))
  refine lv_iconst (v := 0) hx hb dX2_power_74 (by decide) ?_
  refine lv_iconst (v := 3) hx hb dX2_power_75 (by decide) ?_
  refine ny_i (wc := [(mo, .inr (4, [.int 0, .ref m1, .ref m2, .ref m3, .ref m4, .int mn]))]) (wr := [(m1, .inl (cI, 12, .inl hf)), (m2, .inl (cZ, 12, .inl bf))]) hP hD hS hA [2] [0, 1] rfl rfl (by decide) (by decide) (va_runV (As := [.int 0, .int 3]) (rest := []) ⟨hx, hb, hml, hown, hts⟩ (c_X2_isThrown_0 l D mo m1 m2 m3 m4 H.size 0 mn 3) (cwV 2 hts gX2_power_X2_isThrown rfl rfl rfl (by decide +kernel) ⟨Nat.le_of_ble_eq_true rfl, Nat.le_of_ble_eq_true rfl⟩) ⟨ny_blind, va_recv hK hP (ci := 4) (q0 := 2) rfl rfl, fun U hU hW => ⟨rfl, ny_preU hE hP hK hD hS hA [2] rfl (by decide) rfl [] rfl U hU hW⟩⟩ rfl rfl hl.1 rfl (lv_room (Nat.le_of_ble_eq_true rfl)) dX2_power_76 ⟨Nat.le_of_ble_eq_true rfl, Nat.le_of_ble_eq_true rfl⟩) (fun r_76 u H locs hw_76 hP hD hS => ?_)
  have hP : va_P D vwCl [(m1, .inl (cI, 12, .inl hf)), (m2, .inl (cZ, 12, .inl bf)), (mo, .inr (4, [.int 0, .ref m1, .ref m2, .ref m3, .ref m4, .int mn]))] H := hP
  have hD : va_D A [(m1, .inl (cI, 12, .inl hf)), (m2, .inl (cZ, 12, .inl bf)), (mo, .inr (4, [.int 0, .ref m1, .ref m2, .ref m3, .ref m4, .int mn]))] := hD
  have hw_76 : r_76 = 0 := hw_76
  subst hw_76
  refine lv_if_eq (tgt := 84) hx hb dX2_power_79 (by decide) (fun c_79 => ?_) (fun c_79 => absurd (show (0 : Int32) = 0 by  decide) c_79)
  refine lv_lconst (v := 1) hx hb dX2_power_84 (by decide) ?_
  refine lv_aload_n hx hb dX2_power_85 rfl (lv_at hl 0 rfl) ?_
  refine va_get (D := D) (ci := 4) (v := .ref m1) (C := RX2) (T := TX2) (N := 6) hx hb hts in_X2_power_X2 hown hK hP 2 rfl rfl 1 (by decide) (hts (.fieldLink RX2 7 "NearestclockModel" "eighths" "[I") (List.mem_of_getElem? (i := 1) rfl)) (fun _ h9 => h9) rfl dX2_power_86 ?_
  refine lv_iload hx hb dX2_power_89 (lv_at hl 4 rfl) ?_
  refine va_iald hx hb hK hP 0 0 rfl rfl (by assumption) dX2_power_91 ?_
  refine vp_callSi (va_Run.run (va_runS (As := [.long 1, .int (hf i3.toNatClampNeg)]) (rest := []) ⟨hx, hb, hml, hown, hts⟩ (c_X2_residueOf l 1 (hf i3.toNatClampNeg) (gH _ (n_ix gp3)) (by assumption) (by decide)) (va_cwS 2 hts gX2_power_X2_residueOf rfl rfl rfl (by decide +kernel) ⟨Nat.le_of_ble_eq_true rfl, Nat.le_of_ble_eq_true rfl⟩) ⟨ny_blindT, fun U hU hW => ⟨rfl, trivial⟩⟩ rfl rfl hl.1 rfl (lv_room (Nat.le_of_ble_eq_true rfl)) dX2_power_92 ⟨Nat.le_of_ble_eq_true rfl, Nat.le_of_ble_eq_true rfl⟩)) (fun r_92 hw_92 => ?_)
  have hw_92 : r_92 = f_rs 1 (hf i3.toNatClampNeg) := hw_92
  subst hw_92
  refine lv_i2l hx hb dX2_power_95 rfl ?_
  refine ny_tl (x2 := Int64.ofInt (ma_rs 1 (hf i3.toNatClampNeg).toInt)) ((n_pw0 (gH _ (n_ix gp3)) g0).1) ?_
  refine lv_lstore (lv' := [(5, .long (Int64.ofInt (ma_rs 1 (hf i3.toNatClampNeg).toInt))), (0, .ref mo), (1, .int i0), (2, .int i1), (3, .int i2), (4, .int i3)]) hx hb dX2_power_96 hl (by decide) rfl (fun ls hl => ?_)
  refine lv_iconst (v := 0) hx hb dX2_power_98 (by decide) ?_
  refine ny_ti (x2 := nI 0) (rfl) ?_
  refine lv_istore (lv' := [(7, .int (nI 0)), (5, .long (Int64.ofInt (ma_rs 1 (hf i3.toNatClampNeg).toInt))), (0, .ref mo), (1, .int i0), (2, .int i1), (3, .int i2), (4, .int i3)]) hx hb dX2_power_99 hl (by decide) rfl (fun ls hl => ?_)
  refine ny_lp 101 8 (fun u : Nat × Int => u.1 ≤ i2.toInt.toNat ∧ u.2.natAbs ≤ 127 ∧ (hf i3.toNatClampNeg).toInt ∣ u.2 - (hf i1.toNatClampNeg).toInt ^ u.1) (fun u => i2.toInt.toNat - u.1) (fun u => [(0, .ref mo), (1, .int i0), (2, .int i1), (3, .int i2), (4, .int i3), (5, .long (Int64.ofInt u.2)), (7, .int (nI u.1))]) (fun u hu ih ls hl => ?_) (0, ma_rs 1 (hf i3.toNatClampNeg).toInt) (show 0 ≤ i2.toInt.toNat ∧ (ma_rs 1 (hf i3.toNatClampNeg).toInt).natAbs ≤ 127 ∧ (hf i3.toNatClampNeg).toInt ∣ (ma_rs 1 (hf i3.toNatClampNeg).toInt) - (hf i1.toNatClampNeg).toInt ^ 0 from ⟨Nat.zero_le _, (n_pw0 (gH _ (n_ix gp3)) g0).2, by rw [Int.pow_zero]; exact ma_rs_sub (ny_nz0 g0)⟩) (lv_sub hl [2, 3, 4, 5, 6, 1, 0] rfl)
  obtain ⟨k, t⟩ := u
  obtain ⟨hk, ht, hd⟩ : k ≤ i2.toInt.toNat ∧ t.natAbs ≤ 127 ∧ (hf i3.toNatClampNeg).toInt ∣ t - (hf i1.toNatClampNeg).toInt ^ k := hu
  have hl : lv_has ls 8 [(0, .ref mo), (1, .int i0), (2, .int i1), (3, .int i2), (4, .int i3), (5, .long (Int64.ofInt t)), (7, .int (nI k))] := hl
  refine lv_iload hx hb dX2_power_101 (lv_at hl 6 rfl) ?_
  refine lv_iload_n hx hb dX2_power_103 rfl (lv_at hl 3 rfl) ?_
  refine lv_icmp_ge (tgt := 134) hx hb dX2_power_104 (by decide) (fun c_104 => ?_) (fun c_104 => ?_)
  · refine lv_aload_n hx hb dX2_power_134 rfl (lv_at hl 0 rfl) ?_
    refine lv_iload_n hx hb dX2_power_135 rfl (lv_at hl 1 rfl) ?_
    refine lv_lload hx hb dX2_power_136 (lv_at hl 5 rfl) ?_
    refine lv_aload_n hx hb dX2_power_138 rfl (lv_at hl 0 rfl) ?_
    refine va_get (D := D) (ci := 4) (v := .ref m1) (C := RX2) (T := TX2) (N := 6) hx hb hts in_X2_power_X2 hown hK hP 2 rfl rfl 1 (by decide) (hts (.fieldLink RX2 7 "NearestclockModel" "eighths" "[I") (List.mem_of_getElem? (i := 1) rfl)) (fun _ h9 => h9) rfl dX2_power_139 ?_
    refine lv_iload hx hb dX2_power_142 (lv_at hl 4 rfl) ?_
    refine va_iald hx hb hK hP 0 0 rfl rfl (by assumption) dX2_power_144 ?_
    refine vp_callSi (va_Run.run (va_runS (As := [.long (Int64.ofInt t), .int (hf i3.toNatClampNeg)]) (rest := [.int i0, .ref mo]) ⟨hx, hb, hml, hown, hts⟩ (c_X2_residueOf l (Int64.ofInt t) (hf i3.toNatClampNeg) (gH _ (n_ix gp3)) (by assumption) (n_Lb ht)) (va_cwS 2 hts gX2_power_X2_residueOf rfl rfl rfl (by decide +kernel) ⟨Nat.le_of_ble_eq_true rfl, Nat.le_of_ble_eq_true rfl⟩) ⟨ny_blindT, fun U hU hW => ⟨rfl, trivial⟩⟩ rfl rfl hl.1 rfl (lv_room (Nat.le_of_ble_eq_true rfl)) dX2_power_145 ⟨Nat.le_of_ble_eq_true rfl, Nat.le_of_ble_eq_true rfl⟩)) (fun r_145 hw_145 => ?_)
    have hw_145 : r_145 = f_rs (Int64.ofInt t) (hf i3.toNatClampNeg) := hw_145
    subst hw_145
    refine ny_ti (x2 := f_pw (hf i1.toNatClampNeg) i2 (hf i3.toNatClampNeg)) (n_pwF g0 ht hd (n_pwE2 hk gn c_104)) ?_
    refine lv_iconst (v := 0) hx hb dX2_power_148 (by decide) ?_
    refine ny_l (wc := [(mo, .inr (4, [.int 0, .ref m1, .ref m2, .ref m3, .ref m4, .int mn])), (m1, .inl (cI, 12, .inl hf)), (m2, .inl (cZ, 12, .inl bf))]) (wr := []) hP hD hS hA [2, 0, 1] [] rfl rfl (by decide) (by decide) (va_runV (As := [.int i0, .int (f_pw (hf i1.toNatClampNeg) i2 (hf i3.toNatClampNeg)), .int 0]) (rest := []) ⟨hx, hb, hml, hown, hts⟩ (c_X2_lays l D cI cZ mo m1 m2 m3 m4 H.size 0 mn hf bf i0 (f_pw (hf i1.toNatClampNeg) i2 (hf i3.toNatClampNeg)) 0 (by assumption) (n_R_pw (gH _ (n_ix gp3)) g0) (Or.inl rfl)) (cwV 3 hts gX2_power_X2_lays rfl rfl rfl (by decide +kernel) ⟨Nat.le_of_ble_eq_true rfl, Nat.le_of_ble_eq_true rfl⟩) ⟨ny_blind, va_recv hK hP (ci := 4) (q0 := 2) rfl rfl, fun U hU hW => ⟨rfl, ny_preU hE hP hK hD hS hA [2, 0, 1] rfl (by decide) rfl [0, 1] rfl U hU hW⟩⟩ rfl rfl hl.1 rfl (lv_room (Nat.le_of_ble_eq_true rfl)) dX2_power_149 ⟨Nat.le_of_ble_eq_true rfl, Nat.le_of_ble_eq_true rfl⟩) (fun r_149 u H locs hw_149 hP hD hS => ?_)
    have hP : va_P D vwCl [(mo, .inr (4, [.int 0, .ref m1, .ref m2, .ref m3, .ref m4, .int mn])), (m1, .inl (cI, 12, .inl (upd hf i0.toNatClampNeg (f_pw (hf i1.toNatClampNeg) i2 (hf i3.toNatClampNeg))))), (m2, .inl (cZ, 12, .inl (upd bf i0.toNatClampNeg (f_z (f_pw (hf i1.toNatClampNeg) i2 (hf i3.toNatClampNeg)) 0))))] H := hP
    have hD : va_D A [(mo, .inr (4, [.int 0, .ref m1, .ref m2, .ref m3, .ref m4, .int mn])), (m1, .inl (cI, 12, .inl (upd hf i0.toNatClampNeg (f_pw (hf i1.toNatClampNeg) i2 (hf i3.toNatClampNeg))))), (m2, .inl (cZ, 12, .inl (upd bf i0.toNatClampNeg (f_z (f_pw (hf i1.toNatClampNeg) i2 (hf i3.toNatClampNeg)) 0))))] := hD
    have hw_149 : r_149 = f_bt (f_pw (hf i1.toNatClampNeg) i2 (hf i3.toNatClampNeg)) 0 := hw_149
    subst hw_149
    have hP9 := hP.sub (ws' := [(mo, .inr (4, [.int 0, .ref m1, .ref m2, .ref m3, .ref m4, .int mn])), (m1, .inl (cI, 12, .inl (upd hf i0.toNatClampNeg (f_pw (hf i1.toNatClampNeg) i2 (hf i3.toNatClampNeg))))), (m2, .inl (cZ, 12, .inl (upd bf i0.toNatClampNeg (f_z (f_pw (hf i1.toNatClampNeg) i2 (hf i3.toNatClampNeg)) 0))))]) [0, 1, 2] rfl
    have hD9 := hD.sub (ws' := [(mo, .inr (4, [.int 0, .ref m1, .ref m2, .ref m3, .ref m4, .int mn])), (m1, .inl (cI, 12, .inl (upd hf i0.toNatClampNeg (f_pw (hf i1.toNatClampNeg) i2 (hf i3.toNatClampNeg))))), (m2, .inl (cZ, 12, .inl (upd bf i0.toNatClampNeg (f_z (f_pw (hf i1.toNatClampNeg) i2 (hf i3.toNatClampNeg)) 0))))]) [0, 1, 2] (by decide) rfl
    rw [f_z_0] at hP9 hD9
    exact W.lret (v := f_bt (f_pw (hf i1.toNatClampNeg) i2 (hf i3.toNatClampNeg)) 0) hx hb hr (fun t ht hW => ⟨⟨f_bt (f_pw (hf i1.toNatClampNeg) i2 (hf i3.toNatClampNeg)) 0, (), rfl, (rfl), by rw [ht]; exact hP9, va_K.moved hW.alike hK, hD9⟩, hS.F ht⟩) hS.2.2 dX2_power_152
  · have hk2 := n_pwC hk gn c_104
    refine lv_lload hx hb dX2_power_107 (lv_at hl 5 rfl) ?_
    refine lv_aload_n hx hb dX2_power_109 rfl (lv_at hl 0 rfl) ?_
    refine va_get (D := D) (ci := 4) (v := .ref m1) (C := RX2) (T := TX2) (N := 6) hx hb hts in_X2_power_X2 hown hK hP 2 rfl rfl 1 (by decide) (hts (.fieldLink RX2 7 "NearestclockModel" "eighths" "[I") (List.mem_of_getElem? (i := 1) rfl)) (fun _ h9 => h9) rfl dX2_power_110 ?_
    refine lv_iload_n hx hb dX2_power_113 rfl (lv_at hl 2 rfl) ?_
    refine va_iald hx hb hK hP 0 0 rfl rfl (by assumption) dX2_power_114 ?_
    refine lv_i2l hx hb dX2_power_115 rfl ?_
    refine lv_lmul hx hb dX2_power_116 ?_
    refine lv_aload_n hx hb dX2_power_117 rfl (lv_at hl 0 rfl) ?_
    refine va_get (D := D) (ci := 4) (v := .ref m1) (C := RX2) (T := TX2) (N := 6) hx hb hts in_X2_power_X2 hown hK hP 2 rfl rfl 1 (by decide) (hts (.fieldLink RX2 7 "NearestclockModel" "eighths" "[I") (List.mem_of_getElem? (i := 1) rfl)) (fun _ h9 => h9) rfl dX2_power_118 ?_
    refine lv_iload hx hb dX2_power_121 (lv_at hl 4 rfl) ?_
    refine va_iald hx hb hK hP 0 0 rfl rfl (by assumption) dX2_power_123 ?_
    refine lv_i2l hx hb dX2_power_124 rfl ?_
    refine lv_lrem hx hb dX2_power_125 (n_l0 (ny_nz0 g0)) ?_
    refine ny_tl (x2 := Int64.ofInt ((t * (hf i1.toNatClampNeg).toInt).tmod (hf i3.toNatClampNeg).toInt)) (n_pwT (gH _ (n_ix gp1)) ht) ?_
    refine lv_lstore (lv' := [(5, .long (Int64.ofInt ((t * (hf i1.toNatClampNeg).toInt).tmod (hf i3.toNatClampNeg).toInt))), (0, .ref mo), (1, .int i0), (2, .int i1), (3, .int i2), (4, .int i3), (7, .int (nI k))]) hx hb dX2_power_126 hl (by decide) rfl (fun ls hl => ?_)
    refine lv_iinc (v := nI (k + 1)) (lv' := [(7, .int (nI (k + 1))), (5, .long (Int64.ofInt ((t * (hf i1.toNatClampNeg).toInt).tmod (hf i3.toNatClampNeg).toInt))), (0, .ref mo), (1, .int i0), (2, .int i1), (3, .int i2), (4, .int i3)]) hx hb dX2_power_128 hl (k := 6) rfl (n_incN k) (by decide) rfl (fun ls hl => ?_)
    refine lv_goto (tgt := 101) hx hb dX2_power_131 (by decide) ?_
    exact ih (k + 1, (t * (hf i1.toNatClampNeg).toInt).tmod (hf i3.toNatClampNeg).toInt) (show (k + 1) ≤ i2.toInt.toNat ∧ ((t * (hf i1.toNatClampNeg).toInt).tmod (hf i3.toNatClampNeg).toInt).natAbs ≤ 127 ∧ (hf i3.toNatClampNeg).toInt ∣ ((t * (hf i1.toNatClampNeg).toInt).tmod (hf i3.toNatClampNeg).toInt) - (hf i1.toNatClampNeg).toInt ^ (k + 1) from ⟨by omega, n_pwI2 (ny_nz0 g0) (n_R127 (gH _ (n_ix gp3))) hd⟩) (show i2.toInt.toNat - (k + 1) < i2.toInt.toNat - k by omega) _ (lv_sub hl [2, 3, 4, 5, 6, 1, 0] rfl)
set_option maxHeartbeats 4000000 in
set_option maxRecDepth 100000 in
theorem c_X2_power_noP (l : Launch) (D : va_G) (cI : ClassId) (cZ : ClassId) (mo : Nat) (m1 : Nat) (m2 : Nat) (m3 : Nat) (m4 : Nat) (sz : Nat) (th : Int32) (mn : Int32) (hf : Nat → Int32) (bf : Nat → Int32) (i0 : Int32) (i1 : Int32) (i2 : Int32) (i3 : Int32) (gb : ¬ vp_in i0 12 ∨ (¬ vp_in i1 12 ∨ ¬ vp_in i3 12)) : Met l yX2_power wsX2_power ({ frames := 1, cells := 0, slots := 0, locals := 22 }) (va_Pc [.ref mo, .int i0, .int i1, .int i2, .int i3] (ny_pre D [(cI, .int), (cZ, .boolean)] [(mo, .inr (4, [.int th, .ref m1, .ref m2, .ref m3, .ref m4, .int mn])), (m1, .inl (cI, 12, .inl hf)), (m2, .inl (cZ, 12, .inl bf))] sz)) (va_Ql (fun (r : Int64) (u : Unit) => r = 0) (fun (u : Unit) t => ny_at D [(cI, .int), (cZ, .boolean)] (va_A [(mo, .inr (4, [.int th, .ref m1, .ref m2, .ref m3, .ref m4, .int mn])), (m1, .inl (cI, 12, .inl hf)), (m2, .inl (cZ, 12, .inl bf))] sz) [(mo, .inr (4, [.int 1, .ref m1, .ref m2, .ref m3, .ref m4, .int mn])), (m1, .inl (cI, 12, .inl hf)), (m2, .inl (cZ, 12, .inl bf))] t) (va_A [(mo, .inr (4, [.int th, .ref m1, .ref m2, .ref m3, .ref m4, .int mn])), (m1, .inl (cI, 12, .inl hf)), (m2, .inl (cZ, 12, .inl bf))] sz)) 0 0 (va_A [(mo, .inr (4, [.int th, .ref m1, .ref m2, .ref m3, .ref m4, .int mn])), (m1, .inl (cI, 12, .inl hf)), (m2, .inl (cZ, 12, .inl bf))] sz) := by
  refine Met.ofW (cc := cX2_power) (maxL := 8) (ret := (some .long)) (by decide) rfl ?_
  intro p e s m args below meth c s₁ B hml hv
  obtain ⟨rfl, hsz, hP, hK, hD0, hE⟩ := hv
  have hx := B.exec
  have hb := B.bytes
  have hr := B.returns
  have hts := atoms_spec (ws := wsX2_power) B.pre
  have hown : s.vm.findClass RX2 = some m.cls := findClass_of_methodNamed B.named
  have hlocks := B.notSynchronized
  subst hsz
  have hD := hD0.self (sz := s.heap.size)
  generalize hAe : va_A [(mo, .inr (4, [.int th, .ref m1, .ref m2, .ref m3, .ref m4, .int mn])), (m1, .inl (cI, 12, .inl hf)), (m2, .inl (cZ, 12, .inl bf))] s.heap.size = A at hD hE ⊢
  have hA : ∀ q : Nat, s.heap.size ≤ q → A q := fun q h => by rw [← hAe]; exact Or.inr h
  have hS : va_S A s.heap s.heap [] := va_S.rf
  have hl := lv_entry ([.ref mo, .int i0, .int i1, .int i2, .int i3]) (n := 8) (Nat.le_of_ble_eq_true rfl)
  rw [lg_entry_eq]
  generalize (lg_sl ([.ref mo, .int i0, .int i1, .int i2, .int i3]) ++ List.replicate (8 - (lg_sl ([.ref mo, .int i0, .int i1, .int i2, .int i3])).length) Slot.unset).toArray = ls at hl ⊢
  have hl : lv_has ls 8 [(0, .ref mo), (1, .int i0), (2, .int i1), (3, .int i2), (4, .int i3)] := hl
  refine lv_aload_n hx hb dX2_power_0 rfl (lv_at hl 0 rfl) ?_
  refine lv_iload_n hx hb dX2_power_1 rfl (lv_at hl 1 rfl) ?_
  by_cases q_2 : vp_in i0 12
  · have gb := gb.resolve_left (fun h => h q_2)
    refine vp_callSi (va_Run.run (va_runS (As := [.int i0]) (rest := [.ref mo]) ⟨hx, hb, hml, hown, hts⟩ (c_X2_isPlace l i0 (by assumption)) (va_cwS 1 hts gX2_power_X2_isPlace rfl rfl rfl (by decide +kernel) ⟨Nat.le_of_ble_eq_true rfl, Nat.le_of_ble_eq_true rfl⟩) ⟨ny_blindT, fun U hU hW => ⟨rfl, trivial⟩⟩ rfl rfl hl.1 rfl (lv_room (Nat.le_of_ble_eq_true rfl)) dX2_power_2 ⟨Nat.le_of_ble_eq_true rfl, Nat.le_of_ble_eq_true rfl⟩)) (fun r_2 hw_2 => ?_)
    have hw_2 : r_2 = 1 := hw_2
    subst hw_2
    refine lv_if_eq (tgt := 23) hx hb dX2_power_5 (by decide) (fun c_5 => absurd c_5 (show ¬ ((1 : Int32) = 0) by  decide)) (fun c_5 => ?_)
    refine lv_iload_n hx hb dX2_power_8 rfl (lv_at hl 2 rfl) ?_
    by_cases q_9 : vp_in i1 12
    · have gb := gb.resolve_left (fun h => h q_9)
      refine vp_callSi (va_Run.run (va_runS (As := [.int i1]) (rest := [.ref mo]) ⟨hx, hb, hml, hown, hts⟩ (c_X2_isPlace l i1 (by assumption)) (va_cwS 1 hts gX2_power_X2_isPlace rfl rfl rfl (by decide +kernel) ⟨Nat.le_of_ble_eq_true rfl, Nat.le_of_ble_eq_true rfl⟩) ⟨ny_blindT, fun U hU hW => ⟨rfl, trivial⟩⟩ rfl rfl hl.1 rfl (lv_room (Nat.le_of_ble_eq_true rfl)) dX2_power_9 ⟨Nat.le_of_ble_eq_true rfl, Nat.le_of_ble_eq_true rfl⟩)) (fun r_9 hw_9 => ?_)
      have hw_9 : r_9 = 1 := hw_9
      subst hw_9
      refine lv_if_eq (tgt := 23) hx hb dX2_power_12 (by decide) (fun c_12 => absurd c_12 (show ¬ ((1 : Int32) = 0) by  decide)) (fun c_12 => ?_)
      refine lv_iload hx hb dX2_power_15 (lv_at hl 4 rfl) ?_
      refine vp_callSi (va_Run.run (va_runS (As := [.int i3]) (rest := [.ref mo]) ⟨hx, hb, hml, hown, hts⟩ (c_X2_isPlace_no l i3 (by assumption)) (va_cwS 1 hts gX2_power_X2_isPlace rfl rfl rfl (by decide +kernel) ⟨Nat.le_of_ble_eq_true rfl, Nat.le_of_ble_eq_true rfl⟩) ⟨ny_blindT, fun U hU hW => ⟨rfl, trivial⟩⟩ rfl rfl hl.1 rfl (lv_room (Nat.le_of_ble_eq_true rfl)) dX2_power_17 ⟨Nat.le_of_ble_eq_true rfl, Nat.le_of_ble_eq_true rfl⟩)) (fun r_17 hw_17 => ?_)
      have hw_17 : r_17 = 0 := hw_17
      subst hw_17
      refine lv_if_ne (tgt := 27) hx hb dX2_power_20 (by decide) (fun c_20 => absurd (show (0 : Int32) = 0 by  decide) c_20) (fun c_20 => ?_)
      refine lv_iconst (v := 1) hx hb dX2_power_23 (by decide) ?_
      refine lv_goto (tgt := 28) hx hb dX2_power_24 (by decide) ?_
      refine lv_iconst (v := 1) hx hb dX2_power_28 (by decide) ?_
      refine ny_i (wc := [(mo, .inr (4, [.int th, .ref m1, .ref m2, .ref m3, .ref m4, .int mn]))]) (wr := [(m1, .inl (cI, 12, .inl hf)), (m2, .inl (cZ, 12, .inl bf))]) hP hD hS hA [0] [1, 2] rfl rfl (by decide) (by decide) (va_runV (As := [.int 1, .int 1]) (rest := []) ⟨hx, hb, hml, hown, hts⟩ (c_X2_isThrown_1 l D mo m1 m2 m3 m4 s.heap.size th mn 1) (cwV 2 hts gX2_power_X2_isThrown rfl rfl rfl (by decide +kernel) ⟨Nat.le_of_ble_eq_true rfl, Nat.le_of_ble_eq_true rfl⟩) ⟨ny_blind, va_recv hK hP (ci := 4) (q0 := 0) rfl rfl, fun U hU hW => ⟨rfl, ny_preU hE hP hK hD hS hA [0] rfl (by decide) rfl [] rfl U hU hW⟩⟩ rfl rfl hl.1 rfl (lv_room (Nat.le_of_ble_eq_true rfl)) dX2_power_29 ⟨Nat.le_of_ble_eq_true rfl, Nat.le_of_ble_eq_true rfl⟩) (fun r_29 u H locs hw_29 hP hD hS => ?_)
      have hP : va_P D vwCl [(m1, .inl (cI, 12, .inl hf)), (m2, .inl (cZ, 12, .inl bf)), (mo, .inr (4, [.int 1, .ref m1, .ref m2, .ref m3, .ref m4, .int mn]))] H := hP
      have hD : va_D A [(m1, .inl (cI, 12, .inl hf)), (m2, .inl (cZ, 12, .inl bf)), (mo, .inr (4, [.int 1, .ref m1, .ref m2, .ref m3, .ref m4, .int mn]))] := hD
      have hw_29 : r_29 = 1 := hw_29
      subst hw_29
      refine lv_if_ne (tgt := 82) hx hb dX2_power_32 (by decide) (fun c_32 => ?_) (fun c_32 => absurd c_32 (show ¬ ((1 : Int32) = 0) by  decide))
      refine lv_lconst (v := 0) hx hb dX2_power_82 (by decide) ?_
      have hP9 := hP.sub (ws' := [(mo, .inr (4, [.int 1, .ref m1, .ref m2, .ref m3, .ref m4, .int mn])), (m1, .inl (cI, 12, .inl hf)), (m2, .inl (cZ, 12, .inl bf))]) [2, 0, 1] rfl
      have hD9 := hD.sub (ws' := [(mo, .inr (4, [.int 1, .ref m1, .ref m2, .ref m3, .ref m4, .int mn])), (m1, .inl (cI, 12, .inl hf)), (m2, .inl (cZ, 12, .inl bf))]) [2, 0, 1] (by decide) rfl
      exact W.lret (v := 0) hx hb hr (fun t ht hW => ⟨⟨0, (), rfl, (rfl), by rw [ht]; exact hP9, va_K.moved hW.alike hK, hD9⟩, hS.F ht⟩) hS.2.2 dX2_power_83
    · refine vp_callSi (va_Run.run (va_runS (As := [.int i1]) (rest := [.ref mo]) ⟨hx, hb, hml, hown, hts⟩ (c_X2_isPlace_no l i1 (by assumption)) (va_cwS 1 hts gX2_power_X2_isPlace rfl rfl rfl (by decide +kernel) ⟨Nat.le_of_ble_eq_true rfl, Nat.le_of_ble_eq_true rfl⟩) ⟨ny_blindT, fun U hU hW => ⟨rfl, trivial⟩⟩ rfl rfl hl.1 rfl (lv_room (Nat.le_of_ble_eq_true rfl)) dX2_power_9 ⟨Nat.le_of_ble_eq_true rfl, Nat.le_of_ble_eq_true rfl⟩)) (fun r_9 hw_9 => ?_)
      have hw_9 : r_9 = 0 := hw_9
      subst hw_9
      refine lv_if_eq (tgt := 23) hx hb dX2_power_12 (by decide) (fun c_12 => ?_) (fun c_12 => absurd (show (0 : Int32) = 0 by  decide) c_12)
      refine lv_iconst (v := 1) hx hb dX2_power_23 (by decide) ?_
      refine lv_goto (tgt := 28) hx hb dX2_power_24 (by decide) ?_
      refine lv_iconst (v := 1) hx hb dX2_power_28 (by decide) ?_
      refine ny_i (wc := [(mo, .inr (4, [.int th, .ref m1, .ref m2, .ref m3, .ref m4, .int mn]))]) (wr := [(m1, .inl (cI, 12, .inl hf)), (m2, .inl (cZ, 12, .inl bf))]) hP hD hS hA [0] [1, 2] rfl rfl (by decide) (by decide) (va_runV (As := [.int 1, .int 1]) (rest := []) ⟨hx, hb, hml, hown, hts⟩ (c_X2_isThrown_1 l D mo m1 m2 m3 m4 s.heap.size th mn 1) (cwV 2 hts gX2_power_X2_isThrown rfl rfl rfl (by decide +kernel) ⟨Nat.le_of_ble_eq_true rfl, Nat.le_of_ble_eq_true rfl⟩) ⟨ny_blind, va_recv hK hP (ci := 4) (q0 := 0) rfl rfl, fun U hU hW => ⟨rfl, ny_preU hE hP hK hD hS hA [0] rfl (by decide) rfl [] rfl U hU hW⟩⟩ rfl rfl hl.1 rfl (lv_room (Nat.le_of_ble_eq_true rfl)) dX2_power_29 ⟨Nat.le_of_ble_eq_true rfl, Nat.le_of_ble_eq_true rfl⟩) (fun r_29 u H locs hw_29 hP hD hS => ?_)
      have hP : va_P D vwCl [(m1, .inl (cI, 12, .inl hf)), (m2, .inl (cZ, 12, .inl bf)), (mo, .inr (4, [.int 1, .ref m1, .ref m2, .ref m3, .ref m4, .int mn]))] H := hP
      have hD : va_D A [(m1, .inl (cI, 12, .inl hf)), (m2, .inl (cZ, 12, .inl bf)), (mo, .inr (4, [.int 1, .ref m1, .ref m2, .ref m3, .ref m4, .int mn]))] := hD
      have hw_29 : r_29 = 1 := hw_29
      subst hw_29
      refine lv_if_ne (tgt := 82) hx hb dX2_power_32 (by decide) (fun c_32 => ?_) (fun c_32 => absurd c_32 (show ¬ ((1 : Int32) = 0) by  decide))
      refine lv_lconst (v := 0) hx hb dX2_power_82 (by decide) ?_
      have hP9 := hP.sub (ws' := [(mo, .inr (4, [.int 1, .ref m1, .ref m2, .ref m3, .ref m4, .int mn])), (m1, .inl (cI, 12, .inl hf)), (m2, .inl (cZ, 12, .inl bf))]) [2, 0, 1] rfl
      have hD9 := hD.sub (ws' := [(mo, .inr (4, [.int 1, .ref m1, .ref m2, .ref m3, .ref m4, .int mn])), (m1, .inl (cI, 12, .inl hf)), (m2, .inl (cZ, 12, .inl bf))]) [2, 0, 1] (by decide) rfl
      exact W.lret (v := 0) hx hb hr (fun t ht hW => ⟨⟨0, (), rfl, (rfl), by rw [ht]; exact hP9, va_K.moved hW.alike hK, hD9⟩, hS.F ht⟩) hS.2.2 dX2_power_83
  · refine vp_callSi (va_Run.run (va_runS (As := [.int i0]) (rest := [.ref mo]) ⟨hx, hb, hml, hown, hts⟩ (c_X2_isPlace_no l i0 (by assumption)) (va_cwS 1 hts gX2_power_X2_isPlace rfl rfl rfl (by decide +kernel) ⟨Nat.le_of_ble_eq_true rfl, Nat.le_of_ble_eq_true rfl⟩) ⟨ny_blindT, fun U hU hW => ⟨rfl, trivial⟩⟩ rfl rfl hl.1 rfl (lv_room (Nat.le_of_ble_eq_true rfl)) dX2_power_2 ⟨Nat.le_of_ble_eq_true rfl, Nat.le_of_ble_eq_true rfl⟩)) (fun r_2 hw_2 => ?_)
    have hw_2 : r_2 = 0 := hw_2
    subst hw_2
    refine lv_if_eq (tgt := 23) hx hb dX2_power_5 (by decide) (fun c_5 => ?_) (fun c_5 => absurd (show (0 : Int32) = 0 by  decide) c_5)
    refine lv_iconst (v := 1) hx hb dX2_power_23 (by decide) ?_
    refine lv_goto (tgt := 28) hx hb dX2_power_24 (by decide) ?_
    refine lv_iconst (v := 1) hx hb dX2_power_28 (by decide) ?_
    refine ny_i (wc := [(mo, .inr (4, [.int th, .ref m1, .ref m2, .ref m3, .ref m4, .int mn]))]) (wr := [(m1, .inl (cI, 12, .inl hf)), (m2, .inl (cZ, 12, .inl bf))]) hP hD hS hA [0] [1, 2] rfl rfl (by decide) (by decide) (va_runV (As := [.int 1, .int 1]) (rest := []) ⟨hx, hb, hml, hown, hts⟩ (c_X2_isThrown_1 l D mo m1 m2 m3 m4 s.heap.size th mn 1) (cwV 2 hts gX2_power_X2_isThrown rfl rfl rfl (by decide +kernel) ⟨Nat.le_of_ble_eq_true rfl, Nat.le_of_ble_eq_true rfl⟩) ⟨ny_blind, va_recv hK hP (ci := 4) (q0 := 0) rfl rfl, fun U hU hW => ⟨rfl, ny_preU hE hP hK hD hS hA [0] rfl (by decide) rfl [] rfl U hU hW⟩⟩ rfl rfl hl.1 rfl (lv_room (Nat.le_of_ble_eq_true rfl)) dX2_power_29 ⟨Nat.le_of_ble_eq_true rfl, Nat.le_of_ble_eq_true rfl⟩) (fun r_29 u H locs hw_29 hP hD hS => ?_)
    have hP : va_P D vwCl [(m1, .inl (cI, 12, .inl hf)), (m2, .inl (cZ, 12, .inl bf)), (mo, .inr (4, [.int 1, .ref m1, .ref m2, .ref m3, .ref m4, .int mn]))] H := hP
    have hD : va_D A [(m1, .inl (cI, 12, .inl hf)), (m2, .inl (cZ, 12, .inl bf)), (mo, .inr (4, [.int 1, .ref m1, .ref m2, .ref m3, .ref m4, .int mn]))] := hD
    have hw_29 : r_29 = 1 := hw_29
    subst hw_29
    refine lv_if_ne (tgt := 82) hx hb dX2_power_32 (by decide) (fun c_32 => ?_) (fun c_32 => absurd c_32 (show ¬ ((1 : Int32) = 0) by  decide))
    refine lv_lconst (v := 0) hx hb dX2_power_82 (by decide) ?_
    have hP9 := hP.sub (ws' := [(mo, .inr (4, [.int 1, .ref m1, .ref m2, .ref m3, .ref m4, .int mn])), (m1, .inl (cI, 12, .inl hf)), (m2, .inl (cZ, 12, .inl bf))]) [2, 0, 1] rfl
    have hD9 := hD.sub (ws' := [(mo, .inr (4, [.int 1, .ref m1, .ref m2, .ref m3, .ref m4, .int mn])), (m1, .inl (cI, 12, .inl hf)), (m2, .inl (cZ, 12, .inl bf))]) [2, 0, 1] (by decide) rfl
    exact W.lret (v := 0) hx hb hr (fun t ht hW => ⟨⟨0, (), rfl, (rfl), by rw [ht]; exact hP9, va_K.moved hW.alike hK, hD9⟩, hS.F ht⟩) hS.2.2 dX2_power_83
set_option maxHeartbeats 4000000 in
set_option maxRecDepth 100000 in
theorem c_X2_power_noA (l : Launch) (D : va_G) (cI : ClassId) (cZ : ClassId) (mo : Nat) (m1 : Nat) (m2 : Nat) (m3 : Nat) (m4 : Nat) (sz : Nat) (th : Int32) (mn : Int32) (hf : Nat → Int32) (bf : Nat → Int32) (i0 : Int32) (i1 : Int32) (i2 : Int32) (i3 : Int32) (gp0 : vp_in i0 12) (gp1 : vp_in i1 12) (gp3 : vp_in i3 12) (gn : ¬ (0 ≤ i2.toInt ∧ i2.toInt ≤ 1000)) : Met l yX2_power wsX2_power ({ frames := 1, cells := 0, slots := 0, locals := 22 }) (va_Pc [.ref mo, .int i0, .int i1, .int i2, .int i3] (ny_pre D [(cI, .int), (cZ, .boolean)] [(mo, .inr (4, [.int th, .ref m1, .ref m2, .ref m3, .ref m4, .int mn])), (m1, .inl (cI, 12, .inl hf)), (m2, .inl (cZ, 12, .inl bf))] sz)) (va_Ql (fun (r : Int64) (u : Unit) => r = 0) (fun (u : Unit) t => ny_at D [(cI, .int), (cZ, .boolean)] (va_A [(mo, .inr (4, [.int th, .ref m1, .ref m2, .ref m3, .ref m4, .int mn])), (m1, .inl (cI, 12, .inl hf)), (m2, .inl (cZ, 12, .inl bf))] sz) [(mo, .inr (4, [.int 2, .ref m1, .ref m2, .ref m3, .ref m4, .int mn])), (m1, .inl (cI, 12, .inl hf)), (m2, .inl (cZ, 12, .inl bf))] t) (va_A [(mo, .inr (4, [.int th, .ref m1, .ref m2, .ref m3, .ref m4, .int mn])), (m1, .inl (cI, 12, .inl hf)), (m2, .inl (cZ, 12, .inl bf))] sz)) 0 0 (va_A [(mo, .inr (4, [.int th, .ref m1, .ref m2, .ref m3, .ref m4, .int mn])), (m1, .inl (cI, 12, .inl hf)), (m2, .inl (cZ, 12, .inl bf))] sz) := by
  refine Met.ofW (cc := cX2_power) (maxL := 8) (ret := (some .long)) (by decide) rfl ?_
  intro p e s m args below meth c s₁ B hml hv
  obtain ⟨rfl, hsz, hP, hK, hD0, hE⟩ := hv
  have hx := B.exec
  have hb := B.bytes
  have hr := B.returns
  have hts := atoms_spec (ws := wsX2_power) B.pre
  have hown : s.vm.findClass RX2 = some m.cls := findClass_of_methodNamed B.named
  have hlocks := B.notSynchronized
  subst hsz
  have hD := hD0.self (sz := s.heap.size)
  generalize hAe : va_A [(mo, .inr (4, [.int th, .ref m1, .ref m2, .ref m3, .ref m4, .int mn])), (m1, .inl (cI, 12, .inl hf)), (m2, .inl (cZ, 12, .inl bf))] s.heap.size = A at hD hE ⊢
  have hA : ∀ q : Nat, s.heap.size ≤ q → A q := fun q h => by rw [← hAe]; exact Or.inr h
  have hS : va_S A s.heap s.heap [] := va_S.rf
  have hl := lv_entry ([.ref mo, .int i0, .int i1, .int i2, .int i3]) (n := 8) (Nat.le_of_ble_eq_true rfl)
  rw [lg_entry_eq]
  generalize (lg_sl ([.ref mo, .int i0, .int i1, .int i2, .int i3]) ++ List.replicate (8 - (lg_sl ([.ref mo, .int i0, .int i1, .int i2, .int i3])).length) Slot.unset).toArray = ls at hl ⊢
  have hl : lv_has ls 8 [(0, .ref mo), (1, .int i0), (2, .int i1), (3, .int i2), (4, .int i3)] := hl
  refine lv_aload_n hx hb dX2_power_0 rfl (lv_at hl 0 rfl) ?_
  refine lv_iload_n hx hb dX2_power_1 rfl (lv_at hl 1 rfl) ?_
  refine vp_callSi (va_Run.run (va_runS (As := [.int i0]) (rest := [.ref mo]) ⟨hx, hb, hml, hown, hts⟩ (c_X2_isPlace l i0 (by assumption)) (va_cwS 1 hts gX2_power_X2_isPlace rfl rfl rfl (by decide +kernel) ⟨Nat.le_of_ble_eq_true rfl, Nat.le_of_ble_eq_true rfl⟩) ⟨ny_blindT, fun U hU hW => ⟨rfl, trivial⟩⟩ rfl rfl hl.1 rfl (lv_room (Nat.le_of_ble_eq_true rfl)) dX2_power_2 ⟨Nat.le_of_ble_eq_true rfl, Nat.le_of_ble_eq_true rfl⟩)) (fun r_2 hw_2 => ?_)
  have hw_2 : r_2 = 1 := hw_2
  subst hw_2
  refine lv_if_eq (tgt := 23) hx hb dX2_power_5 (by decide) (fun c_5 => absurd c_5 (show ¬ ((1 : Int32) = 0) by  decide)) (fun c_5 => ?_)
  refine lv_iload_n hx hb dX2_power_8 rfl (lv_at hl 2 rfl) ?_
  refine vp_callSi (va_Run.run (va_runS (As := [.int i1]) (rest := [.ref mo]) ⟨hx, hb, hml, hown, hts⟩ (c_X2_isPlace l i1 (by assumption)) (va_cwS 1 hts gX2_power_X2_isPlace rfl rfl rfl (by decide +kernel) ⟨Nat.le_of_ble_eq_true rfl, Nat.le_of_ble_eq_true rfl⟩) ⟨ny_blindT, fun U hU hW => ⟨rfl, trivial⟩⟩ rfl rfl hl.1 rfl (lv_room (Nat.le_of_ble_eq_true rfl)) dX2_power_9 ⟨Nat.le_of_ble_eq_true rfl, Nat.le_of_ble_eq_true rfl⟩)) (fun r_9 hw_9 => ?_)
  have hw_9 : r_9 = 1 := hw_9
  subst hw_9
  refine lv_if_eq (tgt := 23) hx hb dX2_power_12 (by decide) (fun c_12 => absurd c_12 (show ¬ ((1 : Int32) = 0) by  decide)) (fun c_12 => ?_)
  refine lv_iload hx hb dX2_power_15 (lv_at hl 4 rfl) ?_
  refine vp_callSi (va_Run.run (va_runS (As := [.int i3]) (rest := [.ref mo]) ⟨hx, hb, hml, hown, hts⟩ (c_X2_isPlace l i3 (by assumption)) (va_cwS 1 hts gX2_power_X2_isPlace rfl rfl rfl (by decide +kernel) ⟨Nat.le_of_ble_eq_true rfl, Nat.le_of_ble_eq_true rfl⟩) ⟨ny_blindT, fun U hU hW => ⟨rfl, trivial⟩⟩ rfl rfl hl.1 rfl (lv_room (Nat.le_of_ble_eq_true rfl)) dX2_power_17 ⟨Nat.le_of_ble_eq_true rfl, Nat.le_of_ble_eq_true rfl⟩)) (fun r_17 hw_17 => ?_)
  have hw_17 : r_17 = 1 := hw_17
  subst hw_17
  refine lv_if_ne (tgt := 27) hx hb dX2_power_20 (by decide) (fun c_20 => ?_) (fun c_20 => absurd c_20 (show ¬ ((1 : Int32) = 0) by  decide))
  refine lv_iconst (v := 0) hx hb dX2_power_27 (by decide) ?_
  refine lv_iconst (v := 1) hx hb dX2_power_28 (by decide) ?_
  refine ny_i (wc := [(mo, .inr (4, [.int th, .ref m1, .ref m2, .ref m3, .ref m4, .int mn]))]) (wr := [(m1, .inl (cI, 12, .inl hf)), (m2, .inl (cZ, 12, .inl bf))]) hP hD hS hA [0] [1, 2] rfl rfl (by decide) (by decide) (va_runV (As := [.int 0, .int 1]) (rest := []) ⟨hx, hb, hml, hown, hts⟩ (c_X2_isThrown_0 l D mo m1 m2 m3 m4 s.heap.size th mn 1) (cwV 2 hts gX2_power_X2_isThrown rfl rfl rfl (by decide +kernel) ⟨Nat.le_of_ble_eq_true rfl, Nat.le_of_ble_eq_true rfl⟩) ⟨ny_blind, va_recv hK hP (ci := 4) (q0 := 0) rfl rfl, fun U hU hW => ⟨rfl, ny_preU hE hP hK hD hS hA [0] rfl (by decide) rfl [] rfl U hU hW⟩⟩ rfl rfl hl.1 rfl (lv_room (Nat.le_of_ble_eq_true rfl)) dX2_power_29 ⟨Nat.le_of_ble_eq_true rfl, Nat.le_of_ble_eq_true rfl⟩) (fun r_29 u H locs hw_29 hP hD hS => ?_)
  have hP : va_P D vwCl [(m1, .inl (cI, 12, .inl hf)), (m2, .inl (cZ, 12, .inl bf)), (mo, .inr (4, [.int 0, .ref m1, .ref m2, .ref m3, .ref m4, .int mn]))] H := hP
  have hD : va_D A [(m1, .inl (cI, 12, .inl hf)), (m2, .inl (cZ, 12, .inl bf)), (mo, .inr (4, [.int 0, .ref m1, .ref m2, .ref m3, .ref m4, .int mn]))] := hD
  have hw_29 : r_29 = 0 := hw_29
  subst hw_29
  refine lv_if_ne (tgt := 82) hx hb dX2_power_32 (by decide) (fun c_32 => absurd (show (0 : Int32) = 0 by  decide) c_32) (fun c_32 => ?_)
  refine lv_aload_n hx hb dX2_power_35 rfl (lv_at hl 0 rfl) ?_
  refine lv_iload_n hx hb dX2_power_36 rfl (lv_at hl 3 rfl) ?_
  refine lv_if_lt (tgt := 47) hx hb dX2_power_37 (by decide) (fun c_37 => ?_) (fun c_37 => ?_)
  · refine lv_iconst (v := 1) hx hb dX2_power_47 (by decide) ?_
    refine lv_goto (tgt := 52) hx hb dX2_power_48 (by decide) ?_
    refine lv_iconst (v := 2) hx hb dX2_power_52 (by decide) ?_
    refine ny_i (wc := [(mo, .inr (4, [.int 0, .ref m1, .ref m2, .ref m3, .ref m4, .int mn]))]) (wr := [(m1, .inl (cI, 12, .inl hf)), (m2, .inl (cZ, 12, .inl bf))]) hP hD hS hA [2] [0, 1] rfl rfl (by decide) (by decide) (va_runV (As := [.int 1, .int 2]) (rest := []) ⟨hx, hb, hml, hown, hts⟩ (c_X2_isThrown_1 l D mo m1 m2 m3 m4 H.size 0 mn 2) (cwV 2 hts gX2_power_X2_isThrown rfl rfl rfl (by decide +kernel) ⟨Nat.le_of_ble_eq_true rfl, Nat.le_of_ble_eq_true rfl⟩) ⟨ny_blind, va_recv hK hP (ci := 4) (q0 := 2) rfl rfl, fun U hU hW => ⟨rfl, ny_preU hE hP hK hD hS hA [2] rfl (by decide) rfl [] rfl U hU hW⟩⟩ rfl rfl hl.1 rfl (lv_room (Nat.le_of_ble_eq_true rfl)) dX2_power_53 ⟨Nat.le_of_ble_eq_true rfl, Nat.le_of_ble_eq_true rfl⟩) (fun r_53 u H locs hw_53 hP hD hS => ?_)
    have hP : va_P D vwCl [(m1, .inl (cI, 12, .inl hf)), (m2, .inl (cZ, 12, .inl bf)), (mo, .inr (4, [.int 2, .ref m1, .ref m2, .ref m3, .ref m4, .int mn]))] H := hP
    have hD : va_D A [(m1, .inl (cI, 12, .inl hf)), (m2, .inl (cZ, 12, .inl bf)), (mo, .inr (4, [.int 2, .ref m1, .ref m2, .ref m3, .ref m4, .int mn]))] := hD
    have hw_53 : r_53 = 1 := hw_53
    subst hw_53
    refine lv_if_ne (tgt := 82) hx hb dX2_power_56 (by decide) (fun c_56 => ?_) (fun c_56 => absurd c_56 (show ¬ ((1 : Int32) = 0) by  decide))
    refine lv_lconst (v := 0) hx hb dX2_power_82 (by decide) ?_
    have hP9 := hP.sub (ws' := [(mo, .inr (4, [.int 2, .ref m1, .ref m2, .ref m3, .ref m4, .int mn])), (m1, .inl (cI, 12, .inl hf)), (m2, .inl (cZ, 12, .inl bf))]) [2, 0, 1] rfl
    have hD9 := hD.sub (ws' := [(mo, .inr (4, [.int 2, .ref m1, .ref m2, .ref m3, .ref m4, .int mn])), (m1, .inl (cI, 12, .inl hf)), (m2, .inl (cZ, 12, .inl bf))]) [2, 0, 1] (by decide) rfl
    exact W.lret (v := 0) hx hb hr (fun t ht hW => ⟨⟨0, (), rfl, (rfl), by rw [ht]; exact hP9, va_K.moved hW.alike hK, hD9⟩, hS.F ht⟩) hS.2.2 dX2_power_83
  · refine lv_iload_n hx hb dX2_power_40 rfl (lv_at hl 3 rfl) ?_
    refine lv_sipush (v := 1000) hx hb dX2_power_41 (by decide) ?_
    refine lv_icmp_le (tgt := 51) hx hb dX2_power_44 (by decide) (fun c_44 => absurd c_44 (show ¬ ((i2 : Int32) ≤ 1000) by  have z2 : (1000 : Int32).toInt = 1000 := rfl; intro q; rw [fa_le] at q; rw [fa_lt, ny_z0] at c_37; exact gn ⟨by omega, by omega⟩)) (fun c_44 => ?_)
    refine lv_iconst (v := 1) hx hb dX2_power_47 (by decide) ?_
    refine lv_goto (tgt := 52) hx hb dX2_power_48 (by decide) ?_
    refine lv_iconst (v := 2) hx hb dX2_power_52 (by decide) ?_
    refine ny_i (wc := [(mo, .inr (4, [.int 0, .ref m1, .ref m2, .ref m3, .ref m4, .int mn]))]) (wr := [(m1, .inl (cI, 12, .inl hf)), (m2, .inl (cZ, 12, .inl bf))]) hP hD hS hA [2] [0, 1] rfl rfl (by decide) (by decide) (va_runV (As := [.int 1, .int 2]) (rest := []) ⟨hx, hb, hml, hown, hts⟩ (c_X2_isThrown_1 l D mo m1 m2 m3 m4 H.size 0 mn 2) (cwV 2 hts gX2_power_X2_isThrown rfl rfl rfl (by decide +kernel) ⟨Nat.le_of_ble_eq_true rfl, Nat.le_of_ble_eq_true rfl⟩) ⟨ny_blind, va_recv hK hP (ci := 4) (q0 := 2) rfl rfl, fun U hU hW => ⟨rfl, ny_preU hE hP hK hD hS hA [2] rfl (by decide) rfl [] rfl U hU hW⟩⟩ rfl rfl hl.1 rfl (lv_room (Nat.le_of_ble_eq_true rfl)) dX2_power_53 ⟨Nat.le_of_ble_eq_true rfl, Nat.le_of_ble_eq_true rfl⟩) (fun r_53 u H locs hw_53 hP hD hS => ?_)
    have hP : va_P D vwCl [(m1, .inl (cI, 12, .inl hf)), (m2, .inl (cZ, 12, .inl bf)), (mo, .inr (4, [.int 2, .ref m1, .ref m2, .ref m3, .ref m4, .int mn]))] H := hP
    have hD : va_D A [(m1, .inl (cI, 12, .inl hf)), (m2, .inl (cZ, 12, .inl bf)), (mo, .inr (4, [.int 2, .ref m1, .ref m2, .ref m3, .ref m4, .int mn]))] := hD
    have hw_53 : r_53 = 1 := hw_53
    subst hw_53
    refine lv_if_ne (tgt := 82) hx hb dX2_power_56 (by decide) (fun c_56 => ?_) (fun c_56 => absurd c_56 (show ¬ ((1 : Int32) = 0) by  decide))
    refine lv_lconst (v := 0) hx hb dX2_power_82 (by decide) ?_
    have hP9 := hP.sub (ws' := [(mo, .inr (4, [.int 2, .ref m1, .ref m2, .ref m3, .ref m4, .int mn])), (m1, .inl (cI, 12, .inl hf)), (m2, .inl (cZ, 12, .inl bf))]) [2, 0, 1] rfl
    have hD9 := hD.sub (ws' := [(mo, .inr (4, [.int 2, .ref m1, .ref m2, .ref m3, .ref m4, .int mn])), (m1, .inl (cI, 12, .inl hf)), (m2, .inl (cZ, 12, .inl bf))]) [2, 0, 1] (by decide) rfl
    exact W.lret (v := 0) hx hb hr (fun t ht hW => ⟨⟨0, (), rfl, (rfl), by rw [ht]; exact hP9, va_K.moved hW.alike hK, hD9⟩, hS.F ht⟩) hS.2.2 dX2_power_83
set_option maxHeartbeats 4000000 in
set_option maxRecDepth 100000 in
theorem c_X2_power_no0 (l : Launch) (D : va_G) (cI : ClassId) (cZ : ClassId) (mo : Nat) (m1 : Nat) (m2 : Nat) (m3 : Nat) (m4 : Nat) (sz : Nat) (th : Int32) (mn : Int32) (hf : Nat → Int32) (bf : Nat → Int32) (i0 : Int32) (i1 : Int32) (i2 : Int32) (i3 : Int32) (gp0 : vp_in i0 12) (gp1 : vp_in i1 12) (gp3 : vp_in i3 12) (gn : 0 ≤ i2.toInt ∧ i2.toInt ≤ 1000) (g0 : hf i3.toNatClampNeg = 0) : Met l yX2_power wsX2_power ({ frames := 1, cells := 0, slots := 0, locals := 22 }) (va_Pc [.ref mo, .int i0, .int i1, .int i2, .int i3] (ny_pre D [(cI, .int), (cZ, .boolean)] [(mo, .inr (4, [.int th, .ref m1, .ref m2, .ref m3, .ref m4, .int mn])), (m1, .inl (cI, 12, .inl hf)), (m2, .inl (cZ, 12, .inl bf))] sz)) (va_Ql (fun (r : Int64) (u : Unit) => r = 0) (fun (u : Unit) t => ny_at D [(cI, .int), (cZ, .boolean)] (va_A [(mo, .inr (4, [.int th, .ref m1, .ref m2, .ref m3, .ref m4, .int mn])), (m1, .inl (cI, 12, .inl hf)), (m2, .inl (cZ, 12, .inl bf))] sz) [(mo, .inr (4, [.int 3, .ref m1, .ref m2, .ref m3, .ref m4, .int mn])), (m1, .inl (cI, 12, .inl hf)), (m2, .inl (cZ, 12, .inl bf))] t) (va_A [(mo, .inr (4, [.int th, .ref m1, .ref m2, .ref m3, .ref m4, .int mn])), (m1, .inl (cI, 12, .inl hf)), (m2, .inl (cZ, 12, .inl bf))] sz)) 0 0 (va_A [(mo, .inr (4, [.int th, .ref m1, .ref m2, .ref m3, .ref m4, .int mn])), (m1, .inl (cI, 12, .inl hf)), (m2, .inl (cZ, 12, .inl bf))] sz) := by
  refine Met.ofW (cc := cX2_power) (maxL := 8) (ret := (some .long)) (by decide) rfl ?_
  intro p e s m args below meth c s₁ B hml hv
  obtain ⟨rfl, hsz, hP, hK, hD0, hE⟩ := hv
  have hx := B.exec
  have hb := B.bytes
  have hr := B.returns
  have hts := atoms_spec (ws := wsX2_power) B.pre
  have hown : s.vm.findClass RX2 = some m.cls := findClass_of_methodNamed B.named
  have hlocks := B.notSynchronized
  subst hsz
  have hD := hD0.self (sz := s.heap.size)
  generalize hAe : va_A [(mo, .inr (4, [.int th, .ref m1, .ref m2, .ref m3, .ref m4, .int mn])), (m1, .inl (cI, 12, .inl hf)), (m2, .inl (cZ, 12, .inl bf))] s.heap.size = A at hD hE ⊢
  have hA : ∀ q : Nat, s.heap.size ≤ q → A q := fun q h => by rw [← hAe]; exact Or.inr h
  have hS : va_S A s.heap s.heap [] := va_S.rf
  have hl := lv_entry ([.ref mo, .int i0, .int i1, .int i2, .int i3]) (n := 8) (Nat.le_of_ble_eq_true rfl)
  rw [lg_entry_eq]
  generalize (lg_sl ([.ref mo, .int i0, .int i1, .int i2, .int i3]) ++ List.replicate (8 - (lg_sl ([.ref mo, .int i0, .int i1, .int i2, .int i3])).length) Slot.unset).toArray = ls at hl ⊢
  have hl : lv_has ls 8 [(0, .ref mo), (1, .int i0), (2, .int i1), (3, .int i2), (4, .int i3)] := hl
  refine lv_aload_n hx hb dX2_power_0 rfl (lv_at hl 0 rfl) ?_
  refine lv_iload_n hx hb dX2_power_1 rfl (lv_at hl 1 rfl) ?_
  refine vp_callSi (va_Run.run (va_runS (As := [.int i0]) (rest := [.ref mo]) ⟨hx, hb, hml, hown, hts⟩ (c_X2_isPlace l i0 (by assumption)) (va_cwS 1 hts gX2_power_X2_isPlace rfl rfl rfl (by decide +kernel) ⟨Nat.le_of_ble_eq_true rfl, Nat.le_of_ble_eq_true rfl⟩) ⟨ny_blindT, fun U hU hW => ⟨rfl, trivial⟩⟩ rfl rfl hl.1 rfl (lv_room (Nat.le_of_ble_eq_true rfl)) dX2_power_2 ⟨Nat.le_of_ble_eq_true rfl, Nat.le_of_ble_eq_true rfl⟩)) (fun r_2 hw_2 => ?_)
  have hw_2 : r_2 = 1 := hw_2
  subst hw_2
  refine lv_if_eq (tgt := 23) hx hb dX2_power_5 (by decide) (fun c_5 => absurd c_5 (show ¬ ((1 : Int32) = 0) by  decide)) (fun c_5 => ?_)
  refine lv_iload_n hx hb dX2_power_8 rfl (lv_at hl 2 rfl) ?_
  refine vp_callSi (va_Run.run (va_runS (As := [.int i1]) (rest := [.ref mo]) ⟨hx, hb, hml, hown, hts⟩ (c_X2_isPlace l i1 (by assumption)) (va_cwS 1 hts gX2_power_X2_isPlace rfl rfl rfl (by decide +kernel) ⟨Nat.le_of_ble_eq_true rfl, Nat.le_of_ble_eq_true rfl⟩) ⟨ny_blindT, fun U hU hW => ⟨rfl, trivial⟩⟩ rfl rfl hl.1 rfl (lv_room (Nat.le_of_ble_eq_true rfl)) dX2_power_9 ⟨Nat.le_of_ble_eq_true rfl, Nat.le_of_ble_eq_true rfl⟩)) (fun r_9 hw_9 => ?_)
  have hw_9 : r_9 = 1 := hw_9
  subst hw_9
  refine lv_if_eq (tgt := 23) hx hb dX2_power_12 (by decide) (fun c_12 => absurd c_12 (show ¬ ((1 : Int32) = 0) by  decide)) (fun c_12 => ?_)
  refine lv_iload hx hb dX2_power_15 (lv_at hl 4 rfl) ?_
  refine vp_callSi (va_Run.run (va_runS (As := [.int i3]) (rest := [.ref mo]) ⟨hx, hb, hml, hown, hts⟩ (c_X2_isPlace l i3 (by assumption)) (va_cwS 1 hts gX2_power_X2_isPlace rfl rfl rfl (by decide +kernel) ⟨Nat.le_of_ble_eq_true rfl, Nat.le_of_ble_eq_true rfl⟩) ⟨ny_blindT, fun U hU hW => ⟨rfl, trivial⟩⟩ rfl rfl hl.1 rfl (lv_room (Nat.le_of_ble_eq_true rfl)) dX2_power_17 ⟨Nat.le_of_ble_eq_true rfl, Nat.le_of_ble_eq_true rfl⟩)) (fun r_17 hw_17 => ?_)
  have hw_17 : r_17 = 1 := hw_17
  subst hw_17
  refine lv_if_ne (tgt := 27) hx hb dX2_power_20 (by decide) (fun c_20 => ?_) (fun c_20 => absurd c_20 (show ¬ ((1 : Int32) = 0) by  decide))
  refine lv_iconst (v := 0) hx hb dX2_power_27 (by decide) ?_
  refine lv_iconst (v := 1) hx hb dX2_power_28 (by decide) ?_
  refine ny_i (wc := [(mo, .inr (4, [.int th, .ref m1, .ref m2, .ref m3, .ref m4, .int mn]))]) (wr := [(m1, .inl (cI, 12, .inl hf)), (m2, .inl (cZ, 12, .inl bf))]) hP hD hS hA [0] [1, 2] rfl rfl (by decide) (by decide) (va_runV (As := [.int 0, .int 1]) (rest := []) ⟨hx, hb, hml, hown, hts⟩ (c_X2_isThrown_0 l D mo m1 m2 m3 m4 s.heap.size th mn 1) (cwV 2 hts gX2_power_X2_isThrown rfl rfl rfl (by decide +kernel) ⟨Nat.le_of_ble_eq_true rfl, Nat.le_of_ble_eq_true rfl⟩) ⟨ny_blind, va_recv hK hP (ci := 4) (q0 := 0) rfl rfl, fun U hU hW => ⟨rfl, ny_preU hE hP hK hD hS hA [0] rfl (by decide) rfl [] rfl U hU hW⟩⟩ rfl rfl hl.1 rfl (lv_room (Nat.le_of_ble_eq_true rfl)) dX2_power_29 ⟨Nat.le_of_ble_eq_true rfl, Nat.le_of_ble_eq_true rfl⟩) (fun r_29 u H locs hw_29 hP hD hS => ?_)
  have hP : va_P D vwCl [(m1, .inl (cI, 12, .inl hf)), (m2, .inl (cZ, 12, .inl bf)), (mo, .inr (4, [.int 0, .ref m1, .ref m2, .ref m3, .ref m4, .int mn]))] H := hP
  have hD : va_D A [(m1, .inl (cI, 12, .inl hf)), (m2, .inl (cZ, 12, .inl bf)), (mo, .inr (4, [.int 0, .ref m1, .ref m2, .ref m3, .ref m4, .int mn]))] := hD
  have hw_29 : r_29 = 0 := hw_29
  subst hw_29
  refine lv_if_ne (tgt := 82) hx hb dX2_power_32 (by decide) (fun c_32 => absurd (show (0 : Int32) = 0 by  decide) c_32) (fun c_32 => ?_)
  refine lv_aload_n hx hb dX2_power_35 rfl (lv_at hl 0 rfl) ?_
  refine lv_iload_n hx hb dX2_power_36 rfl (lv_at hl 3 rfl) ?_
  refine lv_if_lt (tgt := 47) hx hb dX2_power_37 (by decide) (fun c_37 => absurd c_37 (show ¬ ((i2 : Int32) < 0) by  rw [fa_lt, ny_z0]; omega)) (fun c_37 => ?_)
  refine lv_iload_n hx hb dX2_power_40 rfl (lv_at hl 3 rfl) ?_
  refine lv_sipush (v := 1000) hx hb dX2_power_41 (by decide) ?_
  refine lv_icmp_le (tgt := 51) hx hb dX2_power_44 (by decide) (fun c_44 => ?_) (fun c_44 => absurd (show (i2 : Int32) ≤ 1000 by  have z : (1000 : Int32).toInt = 1000 := rfl; rw [fa_le]; omega) c_44)
  refine lv_iconst (v := 0) hx hb dX2_power_51 (by decide) ?_
  refine lv_iconst (v := 2) hx hb dX2_power_52 (by decide) ?_
  refine ny_i (wc := [(mo, .inr (4, [.int 0, .ref m1, .ref m2, .ref m3, .ref m4, .int mn]))]) (wr := [(m1, .inl (cI, 12, .inl hf)), (m2, .inl (cZ, 12, .inl bf))]) hP hD hS hA [2] [0, 1] rfl rfl (by decide) (by decide) (va_runV (As := [.int 0, .int 2]) (rest := []) ⟨hx, hb, hml, hown, hts⟩ (c_X2_isThrown_0 l D mo m1 m2 m3 m4 H.size 0 mn 2) (cwV 2 hts gX2_power_X2_isThrown rfl rfl rfl (by decide +kernel) ⟨Nat.le_of_ble_eq_true rfl, Nat.le_of_ble_eq_true rfl⟩) ⟨ny_blind, va_recv hK hP (ci := 4) (q0 := 2) rfl rfl, fun U hU hW => ⟨rfl, ny_preU hE hP hK hD hS hA [2] rfl (by decide) rfl [] rfl U hU hW⟩⟩ rfl rfl hl.1 rfl (lv_room (Nat.le_of_ble_eq_true rfl)) dX2_power_53 ⟨Nat.le_of_ble_eq_true rfl, Nat.le_of_ble_eq_true rfl⟩) (fun r_53 u H locs hw_53 hP hD hS => ?_)
  have hP : va_P D vwCl [(m1, .inl (cI, 12, .inl hf)), (m2, .inl (cZ, 12, .inl bf)), (mo, .inr (4, [.int 0, .ref m1, .ref m2, .ref m3, .ref m4, .int mn]))] H := hP
  have hD : va_D A [(m1, .inl (cI, 12, .inl hf)), (m2, .inl (cZ, 12, .inl bf)), (mo, .inr (4, [.int 0, .ref m1, .ref m2, .ref m3, .ref m4, .int mn]))] := hD
  have hw_53 : r_53 = 0 := hw_53
  subst hw_53
  refine lv_if_ne (tgt := 82) hx hb dX2_power_56 (by decide) (fun c_56 => absurd (show (0 : Int32) = 0 by  decide) c_56) (fun c_56 => ?_)
  refine lv_aload_n hx hb dX2_power_59 rfl (lv_at hl 0 rfl) ?_
  refine lv_aload_n hx hb dX2_power_60 rfl (lv_at hl 0 rfl) ?_
  refine va_get (D := D) (ci := 4) (v := .ref m1) (C := RX2) (T := TX2) (N := 6) hx hb hts in_X2_power_X2 hown hK hP 2 rfl rfl 1 (by decide) (hts (.fieldLink RX2 7 "NearestclockModel" "eighths" "[I") (List.mem_of_getElem? (i := 1) rfl)) (fun _ h9 => h9) rfl dX2_power_61 ?_
  refine lv_iload hx hb dX2_power_64 (lv_at hl 4 rfl) ?_
  refine va_iald hx hb hK hP 0 0 rfl rfl (by assumption) dX2_power_66 ?_
  refine lv_if_ne (tgt := 74) hx hb dX2_power_67 (by decide) (fun c_67 => absurd (show ((hf i3.toNatClampNeg) : Int32) = 0 from g0) c_67) (fun c_67 => ?_)
  refine lv_iconst (v := 1) hx hb dX2_power_70 (by decide) ?_
  refine lv_goto (tgt := 75) hx hb dX2_power_71 (by decide) ?_
  refine lv_iconst (v := 3) hx hb dX2_power_75 (by decide) ?_
  refine ny_i (wc := [(mo, .inr (4, [.int 0, .ref m1, .ref m2, .ref m3, .ref m4, .int mn]))]) (wr := [(m1, .inl (cI, 12, .inl hf)), (m2, .inl (cZ, 12, .inl bf))]) hP hD hS hA [2] [0, 1] rfl rfl (by decide) (by decide) (va_runV (As := [.int 1, .int 3]) (rest := []) ⟨hx, hb, hml, hown, hts⟩ (c_X2_isThrown_1 l D mo m1 m2 m3 m4 H.size 0 mn 3) (cwV 2 hts gX2_power_X2_isThrown rfl rfl rfl (by decide +kernel) ⟨Nat.le_of_ble_eq_true rfl, Nat.le_of_ble_eq_true rfl⟩) ⟨ny_blind, va_recv hK hP (ci := 4) (q0 := 2) rfl rfl, fun U hU hW => ⟨rfl, ny_preU hE hP hK hD hS hA [2] rfl (by decide) rfl [] rfl U hU hW⟩⟩ rfl rfl hl.1 rfl (lv_room (Nat.le_of_ble_eq_true rfl)) dX2_power_76 ⟨Nat.le_of_ble_eq_true rfl, Nat.le_of_ble_eq_true rfl⟩) (fun r_76 u H locs hw_76 hP hD hS => ?_)
  have hP : va_P D vwCl [(m1, .inl (cI, 12, .inl hf)), (m2, .inl (cZ, 12, .inl bf)), (mo, .inr (4, [.int 3, .ref m1, .ref m2, .ref m3, .ref m4, .int mn]))] H := hP
  have hD : va_D A [(m1, .inl (cI, 12, .inl hf)), (m2, .inl (cZ, 12, .inl bf)), (mo, .inr (4, [.int 3, .ref m1, .ref m2, .ref m3, .ref m4, .int mn]))] := hD
  have hw_76 : r_76 = 1 := hw_76
  subst hw_76
  refine lv_if_eq (tgt := 84) hx hb dX2_power_79 (by decide) (fun c_79 => absurd c_79 (show ¬ ((1 : Int32) = 0) by  decide)) (fun c_79 => ?_)
  refine lv_lconst (v := 0) hx hb dX2_power_82 (by decide) ?_
  have hP9 := hP.sub (ws' := [(mo, .inr (4, [.int 3, .ref m1, .ref m2, .ref m3, .ref m4, .int mn])), (m1, .inl (cI, 12, .inl hf)), (m2, .inl (cZ, 12, .inl bf))]) [2, 0, 1] rfl
  have hD9 := hD.sub (ws' := [(mo, .inr (4, [.int 3, .ref m1, .ref m2, .ref m3, .ref m4, .int mn])), (m1, .inl (cI, 12, .inl hf)), (m2, .inl (cZ, 12, .inl bf))]) [2, 0, 1] (by decide) rfl
  exact W.lret (v := 0) hx hb hr (fun t ht hW => ⟨⟨0, (), rfl, (rfl), by rw [ht]; exact hP9, va_K.moved hW.alike hK, hD9⟩, hS.F ht⟩) hS.2.2 dX2_power_83
theorem in_X2_measure_X2 : ∀ w ∈ wsX20, w ∈ wsX2_measure := (fun _ h => List.mem_cons_of_mem _ (List.mem_append_left _ (List.mem_append_left _ (List.mem_append_right _ h))))
set_option maxHeartbeats 4000000 in
set_option maxRecDepth 100000 in
theorem c_X2_measure (l : Launch) (D : va_G) (cI : ClassId) (cZ : ClassId) (mo : Nat) (m1 : Nat) (m2 : Nat) (m3 : Nat) (m4 : Nat) (sz : Nat) (th : Int32) (mn : Int32) (hf : Nat → Int32) (bf : Nat → Int32) (i0 : Int32) (i1 : Int32) (i2 : Int32) (gp0 : vp_in i0 12) (gp1 : vp_in i1 12) (gp2 : vp_in i2 12) (gH : ny_H hf) : Met l yX2_measure wsX2_measure ({ frames := 3, cells := 0, slots := 0, locals := 70 }) (va_Pc [.ref mo, .int i0, .int i1, .int i2] (ny_pre D [(cI, .int), (cZ, .boolean)] [(mo, .inr (4, [.int th, .ref m1, .ref m2, .ref m3, .ref m4, .int mn])), (m1, .inl (cI, 12, .inl hf)), (m2, .inl (cZ, 12, .inl bf))] sz)) (va_Ql (fun (r : Int64) (u : Unit) => r = f_bt (f_gd (hf i1.toNatClampNeg) (hf i2.toNatClampNeg)) 0) (fun (u : Unit) t => ny_at D [(cI, .int), (cZ, .boolean)] (va_A [(mo, .inr (4, [.int th, .ref m1, .ref m2, .ref m3, .ref m4, .int mn])), (m1, .inl (cI, 12, .inl hf)), (m2, .inl (cZ, 12, .inl bf))] sz) [(mo, .inr (4, [.int 0, .ref m1, .ref m2, .ref m3, .ref m4, .int mn])), (m1, .inl (cI, 12, .inl (upd hf i0.toNatClampNeg (f_gd (hf i1.toNatClampNeg) (hf i2.toNatClampNeg))))), (m2, .inl (cZ, 12, .inl (upd bf i0.toNatClampNeg 0)))] t) (va_A [(mo, .inr (4, [.int th, .ref m1, .ref m2, .ref m3, .ref m4, .int mn])), (m1, .inl (cI, 12, .inl hf)), (m2, .inl (cZ, 12, .inl bf))] sz)) 0 0 (va_A [(mo, .inr (4, [.int th, .ref m1, .ref m2, .ref m3, .ref m4, .int mn])), (m1, .inl (cI, 12, .inl hf)), (m2, .inl (cZ, 12, .inl bf))] sz) := by
  refine Met.ofW (cc := cX2_measure) (maxL := 4) (ret := (some .long)) (by decide) rfl ?_
  intro p e s m args below meth c s₁ B hml hv
  obtain ⟨rfl, hsz, hP, hK, hD0, hE⟩ := hv
  have hx := B.exec
  have hb := B.bytes
  have hr := B.returns
  have hts := atoms_spec (ws := wsX2_measure) B.pre
  have hown : s.vm.findClass RX2 = some m.cls := findClass_of_methodNamed B.named
  have hlocks := B.notSynchronized
  subst hsz
  have hD := hD0.self (sz := s.heap.size)
  generalize hAe : va_A [(mo, .inr (4, [.int th, .ref m1, .ref m2, .ref m3, .ref m4, .int mn])), (m1, .inl (cI, 12, .inl hf)), (m2, .inl (cZ, 12, .inl bf))] s.heap.size = A at hD hE ⊢
  have hA : ∀ q : Nat, s.heap.size ≤ q → A q := fun q h => by rw [← hAe]; exact Or.inr h
  have hS : va_S A s.heap s.heap [] := va_S.rf
  have hl := lv_entry ([.ref mo, .int i0, .int i1, .int i2]) (n := 4) (Nat.le_of_ble_eq_true rfl)
  rw [lg_entry_eq]
  generalize (lg_sl ([.ref mo, .int i0, .int i1, .int i2]) ++ List.replicate (4 - (lg_sl ([.ref mo, .int i0, .int i1, .int i2])).length) Slot.unset).toArray = ls at hl ⊢
  have hl : lv_has ls 4 [(0, .ref mo), (1, .int i0), (2, .int i1), (3, .int i2)] := hl
  refine lv_aload_n hx hb dX2_measure_0 rfl (lv_at hl 0 rfl) ?_
  refine lv_iload_n hx hb dX2_measure_1 rfl (lv_at hl 1 rfl) ?_
  refine vp_callSi (va_Run.run (va_runS (As := [.int i0]) (rest := [.ref mo]) ⟨hx, hb, hml, hown, hts⟩ (c_X2_isPlace l i0 (by assumption)) (va_cwS 1 hts gX2_measure_X2_isPlace rfl rfl rfl (by decide +kernel) ⟨Nat.le_of_ble_eq_true rfl, Nat.le_of_ble_eq_true rfl⟩) ⟨ny_blindT, fun U hU hW => ⟨rfl, trivial⟩⟩ rfl rfl hl.1 rfl (lv_room (Nat.le_of_ble_eq_true rfl)) dX2_measure_2 ⟨Nat.le_of_ble_eq_true rfl, Nat.le_of_ble_eq_true rfl⟩)) (fun r_2 hw_2 => ?_)
  have hw_2 : r_2 = 1 := hw_2
  subst hw_2
  refine lv_if_eq (tgt := 22) hx hb dX2_measure_5 (by decide) (fun c_5 => absurd c_5 (show ¬ ((1 : Int32) = 0) by  decide)) (fun c_5 => ?_)
  refine lv_iload_n hx hb dX2_measure_8 rfl (lv_at hl 2 rfl) ?_
  refine vp_callSi (va_Run.run (va_runS (As := [.int i1]) (rest := [.ref mo]) ⟨hx, hb, hml, hown, hts⟩ (c_X2_isPlace l i1 (by assumption)) (va_cwS 1 hts gX2_measure_X2_isPlace rfl rfl rfl (by decide +kernel) ⟨Nat.le_of_ble_eq_true rfl, Nat.le_of_ble_eq_true rfl⟩) ⟨ny_blindT, fun U hU hW => ⟨rfl, trivial⟩⟩ rfl rfl hl.1 rfl (lv_room (Nat.le_of_ble_eq_true rfl)) dX2_measure_9 ⟨Nat.le_of_ble_eq_true rfl, Nat.le_of_ble_eq_true rfl⟩)) (fun r_9 hw_9 => ?_)
  have hw_9 : r_9 = 1 := hw_9
  subst hw_9
  refine lv_if_eq (tgt := 22) hx hb dX2_measure_12 (by decide) (fun c_12 => absurd c_12 (show ¬ ((1 : Int32) = 0) by  decide)) (fun c_12 => ?_)
  refine lv_iload_n hx hb dX2_measure_15 rfl (lv_at hl 3 rfl) ?_
  refine vp_callSi (va_Run.run (va_runS (As := [.int i2]) (rest := [.ref mo]) ⟨hx, hb, hml, hown, hts⟩ (c_X2_isPlace l i2 (by assumption)) (va_cwS 1 hts gX2_measure_X2_isPlace rfl rfl rfl (by decide +kernel) ⟨Nat.le_of_ble_eq_true rfl, Nat.le_of_ble_eq_true rfl⟩) ⟨ny_blindT, fun U hU hW => ⟨rfl, trivial⟩⟩ rfl rfl hl.1 rfl (lv_room (Nat.le_of_ble_eq_true rfl)) dX2_measure_16 ⟨Nat.le_of_ble_eq_true rfl, Nat.le_of_ble_eq_true rfl⟩)) (fun r_16 hw_16 => ?_)
  have hw_16 : r_16 = 1 := hw_16
  subst hw_16
  refine lv_if_ne (tgt := 26) hx hb dX2_measure_19 (by decide) (fun c_19 => ?_) (fun c_19 => absurd c_19 (show ¬ ((1 : Int32) = 0) by  decide))
  refine lv_iconst (v := 0) hx hb dX2_measure_26 (by decide) ?_
  refine lv_iconst (v := 1) hx hb dX2_measure_27 (by decide) ?_
  refine ny_i (wc := [(mo, .inr (4, [.int th, .ref m1, .ref m2, .ref m3, .ref m4, .int mn]))]) (wr := [(m1, .inl (cI, 12, .inl hf)), (m2, .inl (cZ, 12, .inl bf))]) hP hD hS hA [0] [1, 2] rfl rfl (by decide) (by decide) (va_runV (As := [.int 0, .int 1]) (rest := []) ⟨hx, hb, hml, hown, hts⟩ (c_X2_isThrown_0 l D mo m1 m2 m3 m4 s.heap.size th mn 1) (cwV 2 hts gX2_measure_X2_isThrown rfl rfl rfl (by decide +kernel) ⟨Nat.le_of_ble_eq_true rfl, Nat.le_of_ble_eq_true rfl⟩) ⟨ny_blind, va_recv hK hP (ci := 4) (q0 := 0) rfl rfl, fun U hU hW => ⟨rfl, ny_preU hE hP hK hD hS hA [0] rfl (by decide) rfl [] rfl U hU hW⟩⟩ rfl rfl hl.1 rfl (lv_room (Nat.le_of_ble_eq_true rfl)) dX2_measure_28 ⟨Nat.le_of_ble_eq_true rfl, Nat.le_of_ble_eq_true rfl⟩) (fun r_28 u H locs hw_28 hP hD hS => ?_)
  have hP : va_P D vwCl [(m1, .inl (cI, 12, .inl hf)), (m2, .inl (cZ, 12, .inl bf)), (mo, .inr (4, [.int 0, .ref m1, .ref m2, .ref m3, .ref m4, .int mn]))] H := hP
  have hD : va_D A [(m1, .inl (cI, 12, .inl hf)), (m2, .inl (cZ, 12, .inl bf)), (mo, .inr (4, [.int 0, .ref m1, .ref m2, .ref m3, .ref m4, .int mn]))] := hD
  have hw_28 : r_28 = 0 := hw_28
  subst hw_28
  refine lv_if_eq (tgt := 36) hx hb dX2_measure_31 (by decide) (fun c_31 => ?_) (fun c_31 => absurd (show (0 : Int32) = 0 by  decide) c_31)
  refine lv_aload_n hx hb dX2_measure_36 rfl (lv_at hl 0 rfl) ?_
  refine lv_iload_n hx hb dX2_measure_37 rfl (lv_at hl 1 rfl) ?_
  refine lv_aload_n hx hb dX2_measure_38 rfl (lv_at hl 0 rfl) ?_
  refine va_get (D := D) (ci := 4) (v := .ref m1) (C := RX2) (T := TX2) (N := 6) hx hb hts in_X2_measure_X2 hown hK hP 2 rfl rfl 1 (by decide) (hts (.fieldLink RX2 7 "NearestclockModel" "eighths" "[I") (List.mem_of_getElem? (i := 1) rfl)) (fun _ h9 => h9) rfl dX2_measure_39 ?_
  refine lv_iload_n hx hb dX2_measure_42 rfl (lv_at hl 2 rfl) ?_
  refine va_iald hx hb hK hP 0 0 rfl rfl (by assumption) dX2_measure_43 ?_
  refine lv_aload_n hx hb dX2_measure_44 rfl (lv_at hl 0 rfl) ?_
  refine va_get (D := D) (ci := 4) (v := .ref m1) (C := RX2) (T := TX2) (N := 6) hx hb hts in_X2_measure_X2 hown hK hP 2 rfl rfl 1 (by decide) (hts (.fieldLink RX2 7 "NearestclockModel" "eighths" "[I") (List.mem_of_getElem? (i := 1) rfl)) (fun _ h9 => h9) rfl dX2_measure_45 ?_
  refine lv_iload_n hx hb dX2_measure_48 rfl (lv_at hl 3 rfl) ?_
  refine va_iald hx hb hK hP 0 0 rfl rfl (by assumption) dX2_measure_49 ?_
  refine vp_callSi (va_Run.run (va_runS (As := [.int (hf i1.toNatClampNeg), .int (hf i2.toNatClampNeg)]) (rest := [.int i0, .ref mo]) ⟨hx, hb, hml, hown, hts⟩ (c_X2_measureOf l (hf i1.toNatClampNeg) (hf i2.toNatClampNeg) (gH _ (n_ix gp1)) (gH _ (n_ix gp2))) (va_cwS 2 hts gX2_measure_X2_measureOf rfl rfl rfl (by decide +kernel) ⟨Nat.le_of_ble_eq_true rfl, Nat.le_of_ble_eq_true rfl⟩) ⟨ny_blindT, fun U hU hW => ⟨rfl, trivial⟩⟩ rfl rfl hl.1 rfl (lv_room (Nat.le_of_ble_eq_true rfl)) dX2_measure_50 ⟨Nat.le_of_ble_eq_true rfl, Nat.le_of_ble_eq_true rfl⟩)) (fun r_50 hw_50 => ?_)
  have hw_50 : r_50 = f_gd (hf i1.toNatClampNeg) (hf i2.toNatClampNeg) := hw_50
  subst hw_50
  refine lv_iconst (v := 0) hx hb dX2_measure_53 (by decide) ?_
  refine ny_l (wc := [(mo, .inr (4, [.int 0, .ref m1, .ref m2, .ref m3, .ref m4, .int mn])), (m1, .inl (cI, 12, .inl hf)), (m2, .inl (cZ, 12, .inl bf))]) (wr := []) hP hD hS hA [2, 0, 1] [] rfl rfl (by decide) (by decide) (va_runV (As := [.int i0, .int (f_gd (hf i1.toNatClampNeg) (hf i2.toNatClampNeg)), .int 0]) (rest := []) ⟨hx, hb, hml, hown, hts⟩ (c_X2_lays l D cI cZ mo m1 m2 m3 m4 H.size 0 mn hf bf i0 (f_gd (hf i1.toNatClampNeg) (hf i2.toNatClampNeg)) 0 (by assumption) (n_R_gd (gH _ (n_ix gp2)) (gH _ (n_ix gp1))) (Or.inl rfl)) (cwV 3 hts gX2_measure_X2_lays rfl rfl rfl (by decide +kernel) ⟨Nat.le_of_ble_eq_true rfl, Nat.le_of_ble_eq_true rfl⟩) ⟨ny_blind, va_recv hK hP (ci := 4) (q0 := 2) rfl rfl, fun U hU hW => ⟨rfl, ny_preU hE hP hK hD hS hA [2, 0, 1] rfl (by decide) rfl [0, 1] rfl U hU hW⟩⟩ rfl rfl hl.1 rfl (lv_room (Nat.le_of_ble_eq_true rfl)) dX2_measure_54 ⟨Nat.le_of_ble_eq_true rfl, Nat.le_of_ble_eq_true rfl⟩) (fun r_54 u H locs hw_54 hP hD hS => ?_)
  have hP : va_P D vwCl [(mo, .inr (4, [.int 0, .ref m1, .ref m2, .ref m3, .ref m4, .int mn])), (m1, .inl (cI, 12, .inl (upd hf i0.toNatClampNeg (f_gd (hf i1.toNatClampNeg) (hf i2.toNatClampNeg))))), (m2, .inl (cZ, 12, .inl (upd bf i0.toNatClampNeg (f_z (f_gd (hf i1.toNatClampNeg) (hf i2.toNatClampNeg)) 0))))] H := hP
  have hD : va_D A [(mo, .inr (4, [.int 0, .ref m1, .ref m2, .ref m3, .ref m4, .int mn])), (m1, .inl (cI, 12, .inl (upd hf i0.toNatClampNeg (f_gd (hf i1.toNatClampNeg) (hf i2.toNatClampNeg))))), (m2, .inl (cZ, 12, .inl (upd bf i0.toNatClampNeg (f_z (f_gd (hf i1.toNatClampNeg) (hf i2.toNatClampNeg)) 0))))] := hD
  have hw_54 : r_54 = f_bt (f_gd (hf i1.toNatClampNeg) (hf i2.toNatClampNeg)) 0 := hw_54
  subst hw_54
  have hP9 := hP.sub (ws' := [(mo, .inr (4, [.int 0, .ref m1, .ref m2, .ref m3, .ref m4, .int mn])), (m1, .inl (cI, 12, .inl (upd hf i0.toNatClampNeg (f_gd (hf i1.toNatClampNeg) (hf i2.toNatClampNeg))))), (m2, .inl (cZ, 12, .inl (upd bf i0.toNatClampNeg (f_z (f_gd (hf i1.toNatClampNeg) (hf i2.toNatClampNeg)) 0))))]) [0, 1, 2] rfl
  have hD9 := hD.sub (ws' := [(mo, .inr (4, [.int 0, .ref m1, .ref m2, .ref m3, .ref m4, .int mn])), (m1, .inl (cI, 12, .inl (upd hf i0.toNatClampNeg (f_gd (hf i1.toNatClampNeg) (hf i2.toNatClampNeg))))), (m2, .inl (cZ, 12, .inl (upd bf i0.toNatClampNeg (f_z (f_gd (hf i1.toNatClampNeg) (hf i2.toNatClampNeg)) 0))))]) [0, 1, 2] (by decide) rfl
  rw [f_z_0] at hP9 hD9
  exact W.lret (v := f_bt (f_gd (hf i1.toNatClampNeg) (hf i2.toNatClampNeg)) 0) hx hb hr (fun t ht hW => ⟨⟨f_bt (f_gd (hf i1.toNatClampNeg) (hf i2.toNatClampNeg)) 0, (), rfl, (rfl), by rw [ht]; exact hP9, va_K.moved hW.alike hK, hD9⟩, hS.F ht⟩) hS.2.2 dX2_measure_57
set_option maxHeartbeats 4000000 in
set_option maxRecDepth 100000 in
theorem c_X2_measure_noP (l : Launch) (D : va_G) (cI : ClassId) (cZ : ClassId) (mo : Nat) (m1 : Nat) (m2 : Nat) (m3 : Nat) (m4 : Nat) (sz : Nat) (th : Int32) (mn : Int32) (hf : Nat → Int32) (bf : Nat → Int32) (i0 : Int32) (i1 : Int32) (i2 : Int32) (gb : ¬ vp_in i0 12 ∨ (¬ vp_in i1 12 ∨ ¬ vp_in i2 12)) : Met l yX2_measure wsX2_measure ({ frames := 1, cells := 0, slots := 0, locals := 22 }) (va_Pc [.ref mo, .int i0, .int i1, .int i2] (ny_pre D [(cI, .int), (cZ, .boolean)] [(mo, .inr (4, [.int th, .ref m1, .ref m2, .ref m3, .ref m4, .int mn])), (m1, .inl (cI, 12, .inl hf)), (m2, .inl (cZ, 12, .inl bf))] sz)) (va_Ql (fun (r : Int64) (u : Unit) => r = 0) (fun (u : Unit) t => ny_at D [(cI, .int), (cZ, .boolean)] (va_A [(mo, .inr (4, [.int th, .ref m1, .ref m2, .ref m3, .ref m4, .int mn])), (m1, .inl (cI, 12, .inl hf)), (m2, .inl (cZ, 12, .inl bf))] sz) [(mo, .inr (4, [.int 1, .ref m1, .ref m2, .ref m3, .ref m4, .int mn])), (m1, .inl (cI, 12, .inl hf)), (m2, .inl (cZ, 12, .inl bf))] t) (va_A [(mo, .inr (4, [.int th, .ref m1, .ref m2, .ref m3, .ref m4, .int mn])), (m1, .inl (cI, 12, .inl hf)), (m2, .inl (cZ, 12, .inl bf))] sz)) 0 0 (va_A [(mo, .inr (4, [.int th, .ref m1, .ref m2, .ref m3, .ref m4, .int mn])), (m1, .inl (cI, 12, .inl hf)), (m2, .inl (cZ, 12, .inl bf))] sz) := by
  refine Met.ofW (cc := cX2_measure) (maxL := 4) (ret := (some .long)) (by decide) rfl ?_
  intro p e s m args below meth c s₁ B hml hv
  obtain ⟨rfl, hsz, hP, hK, hD0, hE⟩ := hv
  have hx := B.exec
  have hb := B.bytes
  have hr := B.returns
  have hts := atoms_spec (ws := wsX2_measure) B.pre
  have hown : s.vm.findClass RX2 = some m.cls := findClass_of_methodNamed B.named
  have hlocks := B.notSynchronized
  subst hsz
  have hD := hD0.self (sz := s.heap.size)
  generalize hAe : va_A [(mo, .inr (4, [.int th, .ref m1, .ref m2, .ref m3, .ref m4, .int mn])), (m1, .inl (cI, 12, .inl hf)), (m2, .inl (cZ, 12, .inl bf))] s.heap.size = A at hD hE ⊢
  have hA : ∀ q : Nat, s.heap.size ≤ q → A q := fun q h => by rw [← hAe]; exact Or.inr h
  have hS : va_S A s.heap s.heap [] := va_S.rf
  have hl := lv_entry ([.ref mo, .int i0, .int i1, .int i2]) (n := 4) (Nat.le_of_ble_eq_true rfl)
  rw [lg_entry_eq]
  generalize (lg_sl ([.ref mo, .int i0, .int i1, .int i2]) ++ List.replicate (4 - (lg_sl ([.ref mo, .int i0, .int i1, .int i2])).length) Slot.unset).toArray = ls at hl ⊢
  have hl : lv_has ls 4 [(0, .ref mo), (1, .int i0), (2, .int i1), (3, .int i2)] := hl
  refine lv_aload_n hx hb dX2_measure_0 rfl (lv_at hl 0 rfl) ?_
  refine lv_iload_n hx hb dX2_measure_1 rfl (lv_at hl 1 rfl) ?_
  by_cases q_2 : vp_in i0 12
  · have gb := gb.resolve_left (fun h => h q_2)
    refine vp_callSi (va_Run.run (va_runS (As := [.int i0]) (rest := [.ref mo]) ⟨hx, hb, hml, hown, hts⟩ (c_X2_isPlace l i0 (by assumption)) (va_cwS 1 hts gX2_measure_X2_isPlace rfl rfl rfl (by decide +kernel) ⟨Nat.le_of_ble_eq_true rfl, Nat.le_of_ble_eq_true rfl⟩) ⟨ny_blindT, fun U hU hW => ⟨rfl, trivial⟩⟩ rfl rfl hl.1 rfl (lv_room (Nat.le_of_ble_eq_true rfl)) dX2_measure_2 ⟨Nat.le_of_ble_eq_true rfl, Nat.le_of_ble_eq_true rfl⟩)) (fun r_2 hw_2 => ?_)
    have hw_2 : r_2 = 1 := hw_2
    subst hw_2
    refine lv_if_eq (tgt := 22) hx hb dX2_measure_5 (by decide) (fun c_5 => absurd c_5 (show ¬ ((1 : Int32) = 0) by  decide)) (fun c_5 => ?_)
    refine lv_iload_n hx hb dX2_measure_8 rfl (lv_at hl 2 rfl) ?_
    by_cases q_9 : vp_in i1 12
    · have gb := gb.resolve_left (fun h => h q_9)
      refine vp_callSi (va_Run.run (va_runS (As := [.int i1]) (rest := [.ref mo]) ⟨hx, hb, hml, hown, hts⟩ (c_X2_isPlace l i1 (by assumption)) (va_cwS 1 hts gX2_measure_X2_isPlace rfl rfl rfl (by decide +kernel) ⟨Nat.le_of_ble_eq_true rfl, Nat.le_of_ble_eq_true rfl⟩) ⟨ny_blindT, fun U hU hW => ⟨rfl, trivial⟩⟩ rfl rfl hl.1 rfl (lv_room (Nat.le_of_ble_eq_true rfl)) dX2_measure_9 ⟨Nat.le_of_ble_eq_true rfl, Nat.le_of_ble_eq_true rfl⟩)) (fun r_9 hw_9 => ?_)
      have hw_9 : r_9 = 1 := hw_9
      subst hw_9
      refine lv_if_eq (tgt := 22) hx hb dX2_measure_12 (by decide) (fun c_12 => absurd c_12 (show ¬ ((1 : Int32) = 0) by  decide)) (fun c_12 => ?_)
      refine lv_iload_n hx hb dX2_measure_15 rfl (lv_at hl 3 rfl) ?_
      refine vp_callSi (va_Run.run (va_runS (As := [.int i2]) (rest := [.ref mo]) ⟨hx, hb, hml, hown, hts⟩ (c_X2_isPlace_no l i2 (by assumption)) (va_cwS 1 hts gX2_measure_X2_isPlace rfl rfl rfl (by decide +kernel) ⟨Nat.le_of_ble_eq_true rfl, Nat.le_of_ble_eq_true rfl⟩) ⟨ny_blindT, fun U hU hW => ⟨rfl, trivial⟩⟩ rfl rfl hl.1 rfl (lv_room (Nat.le_of_ble_eq_true rfl)) dX2_measure_16 ⟨Nat.le_of_ble_eq_true rfl, Nat.le_of_ble_eq_true rfl⟩)) (fun r_16 hw_16 => ?_)
      have hw_16 : r_16 = 0 := hw_16
      subst hw_16
      refine lv_if_ne (tgt := 26) hx hb dX2_measure_19 (by decide) (fun c_19 => absurd (show (0 : Int32) = 0 by  decide) c_19) (fun c_19 => ?_)
      refine lv_iconst (v := 1) hx hb dX2_measure_22 (by decide) ?_
      refine lv_goto (tgt := 27) hx hb dX2_measure_23 (by decide) ?_
      refine lv_iconst (v := 1) hx hb dX2_measure_27 (by decide) ?_
      refine ny_i (wc := [(mo, .inr (4, [.int th, .ref m1, .ref m2, .ref m3, .ref m4, .int mn]))]) (wr := [(m1, .inl (cI, 12, .inl hf)), (m2, .inl (cZ, 12, .inl bf))]) hP hD hS hA [0] [1, 2] rfl rfl (by decide) (by decide) (va_runV (As := [.int 1, .int 1]) (rest := []) ⟨hx, hb, hml, hown, hts⟩ (c_X2_isThrown_1 l D mo m1 m2 m3 m4 s.heap.size th mn 1) (cwV 2 hts gX2_measure_X2_isThrown rfl rfl rfl (by decide +kernel) ⟨Nat.le_of_ble_eq_true rfl, Nat.le_of_ble_eq_true rfl⟩) ⟨ny_blind, va_recv hK hP (ci := 4) (q0 := 0) rfl rfl, fun U hU hW => ⟨rfl, ny_preU hE hP hK hD hS hA [0] rfl (by decide) rfl [] rfl U hU hW⟩⟩ rfl rfl hl.1 rfl (lv_room (Nat.le_of_ble_eq_true rfl)) dX2_measure_28 ⟨Nat.le_of_ble_eq_true rfl, Nat.le_of_ble_eq_true rfl⟩) (fun r_28 u H locs hw_28 hP hD hS => ?_)
      have hP : va_P D vwCl [(m1, .inl (cI, 12, .inl hf)), (m2, .inl (cZ, 12, .inl bf)), (mo, .inr (4, [.int 1, .ref m1, .ref m2, .ref m3, .ref m4, .int mn]))] H := hP
      have hD : va_D A [(m1, .inl (cI, 12, .inl hf)), (m2, .inl (cZ, 12, .inl bf)), (mo, .inr (4, [.int 1, .ref m1, .ref m2, .ref m3, .ref m4, .int mn]))] := hD
      have hw_28 : r_28 = 1 := hw_28
      subst hw_28
      refine lv_if_eq (tgt := 36) hx hb dX2_measure_31 (by decide) (fun c_31 => absurd c_31 (show ¬ ((1 : Int32) = 0) by  decide)) (fun c_31 => ?_)
      refine lv_lconst (v := 0) hx hb dX2_measure_34 (by decide) ?_
      have hP9 := hP.sub (ws' := [(mo, .inr (4, [.int 1, .ref m1, .ref m2, .ref m3, .ref m4, .int mn])), (m1, .inl (cI, 12, .inl hf)), (m2, .inl (cZ, 12, .inl bf))]) [2, 0, 1] rfl
      have hD9 := hD.sub (ws' := [(mo, .inr (4, [.int 1, .ref m1, .ref m2, .ref m3, .ref m4, .int mn])), (m1, .inl (cI, 12, .inl hf)), (m2, .inl (cZ, 12, .inl bf))]) [2, 0, 1] (by decide) rfl
      exact W.lret (v := 0) hx hb hr (fun t ht hW => ⟨⟨0, (), rfl, (rfl), by rw [ht]; exact hP9, va_K.moved hW.alike hK, hD9⟩, hS.F ht⟩) hS.2.2 dX2_measure_35
    · refine vp_callSi (va_Run.run (va_runS (As := [.int i1]) (rest := [.ref mo]) ⟨hx, hb, hml, hown, hts⟩ (c_X2_isPlace_no l i1 (by assumption)) (va_cwS 1 hts gX2_measure_X2_isPlace rfl rfl rfl (by decide +kernel) ⟨Nat.le_of_ble_eq_true rfl, Nat.le_of_ble_eq_true rfl⟩) ⟨ny_blindT, fun U hU hW => ⟨rfl, trivial⟩⟩ rfl rfl hl.1 rfl (lv_room (Nat.le_of_ble_eq_true rfl)) dX2_measure_9 ⟨Nat.le_of_ble_eq_true rfl, Nat.le_of_ble_eq_true rfl⟩)) (fun r_9 hw_9 => ?_)
      have hw_9 : r_9 = 0 := hw_9
      subst hw_9
      refine lv_if_eq (tgt := 22) hx hb dX2_measure_12 (by decide) (fun c_12 => ?_) (fun c_12 => absurd (show (0 : Int32) = 0 by  decide) c_12)
      refine lv_iconst (v := 1) hx hb dX2_measure_22 (by decide) ?_
      refine lv_goto (tgt := 27) hx hb dX2_measure_23 (by decide) ?_
      refine lv_iconst (v := 1) hx hb dX2_measure_27 (by decide) ?_
      refine ny_i (wc := [(mo, .inr (4, [.int th, .ref m1, .ref m2, .ref m3, .ref m4, .int mn]))]) (wr := [(m1, .inl (cI, 12, .inl hf)), (m2, .inl (cZ, 12, .inl bf))]) hP hD hS hA [0] [1, 2] rfl rfl (by decide) (by decide) (va_runV (As := [.int 1, .int 1]) (rest := []) ⟨hx, hb, hml, hown, hts⟩ (c_X2_isThrown_1 l D mo m1 m2 m3 m4 s.heap.size th mn 1) (cwV 2 hts gX2_measure_X2_isThrown rfl rfl rfl (by decide +kernel) ⟨Nat.le_of_ble_eq_true rfl, Nat.le_of_ble_eq_true rfl⟩) ⟨ny_blind, va_recv hK hP (ci := 4) (q0 := 0) rfl rfl, fun U hU hW => ⟨rfl, ny_preU hE hP hK hD hS hA [0] rfl (by decide) rfl [] rfl U hU hW⟩⟩ rfl rfl hl.1 rfl (lv_room (Nat.le_of_ble_eq_true rfl)) dX2_measure_28 ⟨Nat.le_of_ble_eq_true rfl, Nat.le_of_ble_eq_true rfl⟩) (fun r_28 u H locs hw_28 hP hD hS => ?_)
      have hP : va_P D vwCl [(m1, .inl (cI, 12, .inl hf)), (m2, .inl (cZ, 12, .inl bf)), (mo, .inr (4, [.int 1, .ref m1, .ref m2, .ref m3, .ref m4, .int mn]))] H := hP
      have hD : va_D A [(m1, .inl (cI, 12, .inl hf)), (m2, .inl (cZ, 12, .inl bf)), (mo, .inr (4, [.int 1, .ref m1, .ref m2, .ref m3, .ref m4, .int mn]))] := hD
      have hw_28 : r_28 = 1 := hw_28
      subst hw_28
      refine lv_if_eq (tgt := 36) hx hb dX2_measure_31 (by decide) (fun c_31 => absurd c_31 (show ¬ ((1 : Int32) = 0) by  decide)) (fun c_31 => ?_)
      refine lv_lconst (v := 0) hx hb dX2_measure_34 (by decide) ?_
      have hP9 := hP.sub (ws' := [(mo, .inr (4, [.int 1, .ref m1, .ref m2, .ref m3, .ref m4, .int mn])), (m1, .inl (cI, 12, .inl hf)), (m2, .inl (cZ, 12, .inl bf))]) [2, 0, 1] rfl
      have hD9 := hD.sub (ws' := [(mo, .inr (4, [.int 1, .ref m1, .ref m2, .ref m3, .ref m4, .int mn])), (m1, .inl (cI, 12, .inl hf)), (m2, .inl (cZ, 12, .inl bf))]) [2, 0, 1] (by decide) rfl
      exact W.lret (v := 0) hx hb hr (fun t ht hW => ⟨⟨0, (), rfl, (rfl), by rw [ht]; exact hP9, va_K.moved hW.alike hK, hD9⟩, hS.F ht⟩) hS.2.2 dX2_measure_35
  · refine vp_callSi (va_Run.run (va_runS (As := [.int i0]) (rest := [.ref mo]) ⟨hx, hb, hml, hown, hts⟩ (c_X2_isPlace_no l i0 (by assumption)) (va_cwS 1 hts gX2_measure_X2_isPlace rfl rfl rfl (by decide +kernel) ⟨Nat.le_of_ble_eq_true rfl, Nat.le_of_ble_eq_true rfl⟩) ⟨ny_blindT, fun U hU hW => ⟨rfl, trivial⟩⟩ rfl rfl hl.1 rfl (lv_room (Nat.le_of_ble_eq_true rfl)) dX2_measure_2 ⟨Nat.le_of_ble_eq_true rfl, Nat.le_of_ble_eq_true rfl⟩)) (fun r_2 hw_2 => ?_)
    have hw_2 : r_2 = 0 := hw_2
    subst hw_2
    refine lv_if_eq (tgt := 22) hx hb dX2_measure_5 (by decide) (fun c_5 => ?_) (fun c_5 => absurd (show (0 : Int32) = 0 by  decide) c_5)
    refine lv_iconst (v := 1) hx hb dX2_measure_22 (by decide) ?_
    refine lv_goto (tgt := 27) hx hb dX2_measure_23 (by decide) ?_
    refine lv_iconst (v := 1) hx hb dX2_measure_27 (by decide) ?_
    refine ny_i (wc := [(mo, .inr (4, [.int th, .ref m1, .ref m2, .ref m3, .ref m4, .int mn]))]) (wr := [(m1, .inl (cI, 12, .inl hf)), (m2, .inl (cZ, 12, .inl bf))]) hP hD hS hA [0] [1, 2] rfl rfl (by decide) (by decide) (va_runV (As := [.int 1, .int 1]) (rest := []) ⟨hx, hb, hml, hown, hts⟩ (c_X2_isThrown_1 l D mo m1 m2 m3 m4 s.heap.size th mn 1) (cwV 2 hts gX2_measure_X2_isThrown rfl rfl rfl (by decide +kernel) ⟨Nat.le_of_ble_eq_true rfl, Nat.le_of_ble_eq_true rfl⟩) ⟨ny_blind, va_recv hK hP (ci := 4) (q0 := 0) rfl rfl, fun U hU hW => ⟨rfl, ny_preU hE hP hK hD hS hA [0] rfl (by decide) rfl [] rfl U hU hW⟩⟩ rfl rfl hl.1 rfl (lv_room (Nat.le_of_ble_eq_true rfl)) dX2_measure_28 ⟨Nat.le_of_ble_eq_true rfl, Nat.le_of_ble_eq_true rfl⟩) (fun r_28 u H locs hw_28 hP hD hS => ?_)
    have hP : va_P D vwCl [(m1, .inl (cI, 12, .inl hf)), (m2, .inl (cZ, 12, .inl bf)), (mo, .inr (4, [.int 1, .ref m1, .ref m2, .ref m3, .ref m4, .int mn]))] H := hP
    have hD : va_D A [(m1, .inl (cI, 12, .inl hf)), (m2, .inl (cZ, 12, .inl bf)), (mo, .inr (4, [.int 1, .ref m1, .ref m2, .ref m3, .ref m4, .int mn]))] := hD
    have hw_28 : r_28 = 1 := hw_28
    subst hw_28
    refine lv_if_eq (tgt := 36) hx hb dX2_measure_31 (by decide) (fun c_31 => absurd c_31 (show ¬ ((1 : Int32) = 0) by  decide)) (fun c_31 => ?_)
    refine lv_lconst (v := 0) hx hb dX2_measure_34 (by decide) ?_
    have hP9 := hP.sub (ws' := [(mo, .inr (4, [.int 1, .ref m1, .ref m2, .ref m3, .ref m4, .int mn])), (m1, .inl (cI, 12, .inl hf)), (m2, .inl (cZ, 12, .inl bf))]) [2, 0, 1] rfl
    have hD9 := hD.sub (ws' := [(mo, .inr (4, [.int 1, .ref m1, .ref m2, .ref m3, .ref m4, .int mn])), (m1, .inl (cI, 12, .inl hf)), (m2, .inl (cZ, 12, .inl bf))]) [2, 0, 1] (by decide) rfl
    exact W.lret (v := 0) hx hb hr (fun t ht hW => ⟨⟨0, (), rfl, (rfl), by rw [ht]; exact hP9, va_K.moved hW.alike hK, hD9⟩, hS.F ht⟩) hS.2.2 dX2_measure_35
theorem in_X2_order_X2 : ∀ w ∈ wsX20, w ∈ wsX2_order := (fun _ h => List.mem_cons_of_mem _ (List.mem_append_left _ (List.mem_append_left _ (List.mem_append_right _ h))))
set_option maxHeartbeats 4000000 in
set_option maxRecDepth 100000 in
theorem c_X2_order (l : Launch) (D : va_G) (cI : ClassId) (mo : Nat) (m1 : Nat) (m2 : Nat) (m3 : Nat) (m4 : Nat) (sz : Nat) (th : Int32) (mn : Int32) (hf : Nat → Int32) (i0 : Int32) (i1 : Int32) (gp0 : vp_in i0 12) (gp1 : vp_in i1 12) (g0 : ¬ hf i1.toNatClampNeg = 0) (gH : ny_H hf) : Met l yX2_order wsX2_order ({ frames := 2, cells := 0, slots := 0, locals := 46 }) (va_Pc [.ref mo, .int i0, .int i1] (ny_pre D [(cI, .int)] [(mo, .inr (4, [.int th, .ref m1, .ref m2, .ref m3, .ref m4, .int mn])), (m1, .inl (cI, 12, .inl hf))] sz)) (va_Qi (fun (r : Int32) (u : Unit) => r = ny_ab (hf i1.toNatClampNeg / f_gd (hf i0.toNatClampNeg) (hf i1.toNatClampNeg))) (fun (u : Unit) t => ny_at D [(cI, .int)] (va_A [(mo, .inr (4, [.int th, .ref m1, .ref m2, .ref m3, .ref m4, .int mn])), (m1, .inl (cI, 12, .inl hf))] sz) [(mo, .inr (4, [.int 0, .ref m1, .ref m2, .ref m3, .ref m4, .int mn])), (m1, .inl (cI, 12, .inl hf))] t) (va_A [(mo, .inr (4, [.int th, .ref m1, .ref m2, .ref m3, .ref m4, .int mn])), (m1, .inl (cI, 12, .inl hf))] sz)) 0 0 (va_A [(mo, .inr (4, [.int th, .ref m1, .ref m2, .ref m3, .ref m4, .int mn])), (m1, .inl (cI, 12, .inl hf))] sz) := by
  refine Met.ofW (cc := cX2_order) (maxL := 4) (ret := (some .int)) (by decide) rfl ?_
  intro p e s m args below meth c s₁ B hml hv
  obtain ⟨rfl, hsz, hP, hK, hD0, hE⟩ := hv
  have hx := B.exec
  have hb := B.bytes
  have hr := B.returns
  have hts := atoms_spec (ws := wsX2_order) B.pre
  have hown : s.vm.findClass RX2 = some m.cls := findClass_of_methodNamed B.named
  have hlocks := B.notSynchronized
  subst hsz
  have hD := hD0.self (sz := s.heap.size)
  generalize hAe : va_A [(mo, .inr (4, [.int th, .ref m1, .ref m2, .ref m3, .ref m4, .int mn])), (m1, .inl (cI, 12, .inl hf))] s.heap.size = A at hD hE ⊢
  have hA : ∀ q : Nat, s.heap.size ≤ q → A q := fun q h => by rw [← hAe]; exact Or.inr h
  have hS : va_S A s.heap s.heap [] := va_S.rf
  have hl := lv_entry ([.ref mo, .int i0, .int i1]) (n := 4) (Nat.le_of_ble_eq_true rfl)
  rw [lg_entry_eq]
  generalize (lg_sl ([.ref mo, .int i0, .int i1]) ++ List.replicate (4 - (lg_sl ([.ref mo, .int i0, .int i1])).length) Slot.unset).toArray = ls at hl ⊢
  have hl : lv_has ls 4 [(0, .ref mo), (1, .int i0), (2, .int i1)] := hl
  refine lv_aload_n hx hb dX2_order_0 rfl (lv_at hl 0 rfl) ?_
  refine lv_iload_n hx hb dX2_order_1 rfl (lv_at hl 1 rfl) ?_
  refine lv_iload_n hx hb dX2_order_2 rfl (lv_at hl 1 rfl) ?_
  refine lv_iload_n hx hb dX2_order_3 rfl (lv_at hl 1 rfl) ?_
  refine lv_iload_n hx hb dX2_order_4 rfl (lv_at hl 2 rfl) ?_
  refine ny_i (wc := [(mo, .inr (4, [.int th, .ref m1, .ref m2, .ref m3, .ref m4, .int mn])), (m1, .inl (cI, 12, .inl hf))]) (wr := []) hP hD hS hA [0, 1] [] rfl rfl (by decide) (by decide) (va_runV (As := [.int i0, .int i0, .int i0, .int i1]) (rest := []) ⟨hx, hb, hml, hown, hts⟩ (c_X2_isBad l D cI mo m1 m2 m3 m4 s.heap.size th mn hf i0 i0 i0 i1 (by assumption) (by assumption) (by assumption) (by assumption) (by assumption)) (cwV 4 hts gX2_order_X2_isBad rfl rfl rfl (by decide +kernel) ⟨Nat.le_of_ble_eq_true rfl, Nat.le_of_ble_eq_true rfl⟩) ⟨ny_blind, va_recv hK hP (ci := 4) (q0 := 0) rfl rfl, fun U hU hW => ⟨rfl, ny_preU hE hP hK hD hS hA [0, 1] rfl (by decide) rfl [0] rfl U hU hW⟩⟩ rfl rfl hl.1 rfl (lv_room (Nat.le_of_ble_eq_true rfl)) dX2_order_5 ⟨Nat.le_of_ble_eq_true rfl, Nat.le_of_ble_eq_true rfl⟩) (fun r_5 u H locs hw_5 hP hD hS => ?_)
  have hP : va_P D vwCl [(mo, .inr (4, [.int 0, .ref m1, .ref m2, .ref m3, .ref m4, .int mn])), (m1, .inl (cI, 12, .inl hf))] H := hP
  have hD : va_D A [(mo, .inr (4, [.int 0, .ref m1, .ref m2, .ref m3, .ref m4, .int mn])), (m1, .inl (cI, 12, .inl hf))] := hD
  have hw_5 : r_5 = 0 := hw_5
  subst hw_5
  refine lv_if_eq (tgt := 13) hx hb dX2_order_8 (by decide) (fun c_8 => ?_) (fun c_8 => absurd (show (0 : Int32) = 0 by  decide) c_8)
  refine lv_iconst (v := 1) hx hb dX2_order_13 (by decide) ?_
  refine ny_ti (x2 := nI 1) (rfl) ?_
  refine lv_istore_n (lv' := [(3, .int (nI 1)), (0, .ref mo), (1, .int i0), (2, .int i1)]) hx hb dX2_order_14 rfl hl (by decide) rfl (fun ls hl => ?_)
  refine ny_lp 15 4 (fun u : Nat => 1 ≤ u ∧ u ≤ ma_od (hf i0.toNatClampNeg).toInt (hf i1.toNatClampNeg).toInt) (fun u => ma_od (hf i0.toNatClampNeg).toInt (hf i1.toNatClampNeg).toInt - u) (fun u => [(0, .ref mo), (1, .int i0), (2, .int i1), (3, .int (nI u))]) (fun u hu ih ls hl => ?_) 1 (show 1 ≤ 1 ∧ 1 ≤ ma_od (hf i0.toNatClampNeg).toInt (hf i1.toNatClampNeg).toInt from ⟨Nat.le_refl 1, (n_od3 (gH _ (n_ix gp0)) (gH _ (n_ix gp1)) g0).2.1⟩) (lv_sub hl [1, 2, 3, 0] rfl)
  obtain ⟨k, rfl⟩ : ∃ z, z = u := ⟨_, rfl⟩
  obtain ⟨hk1, hk2⟩ : 1 ≤ k ∧ k ≤ ma_od (hf i0.toNatClampNeg).toInt (hf i1.toNatClampNeg).toInt := hu
  have hl : lv_has ls 4 [(0, .ref mo), (1, .int i0), (2, .int i1), (3, .int (nI k))] := hl
  have h127 := (n_od3 (gH _ (n_ix gp0)) (gH _ (n_ix gp1)) g0).2.2
  have hq := n_odr (y := (hf i1.toNatClampNeg)) (k := k) (gH _ (n_ix gp0)) (by omega)
  refine lv_iload_n hx hb dX2_order_15 rfl (lv_at hl 3 rfl) ?_
  refine lv_i2l hx hb dX2_order_16 rfl ?_
  refine lv_aload_n hx hb dX2_order_17 rfl (lv_at hl 0 rfl) ?_
  refine va_get (D := D) (ci := 4) (v := .ref m1) (C := RX2) (T := TX2) (N := 6) hx hb hts in_X2_order_X2 hown hK hP 0 rfl rfl 1 (by decide) (hts (.fieldLink RX2 7 "NearestclockModel" "eighths" "[I") (List.mem_of_getElem? (i := 1) rfl)) (fun _ h9 => h9) rfl dX2_order_18 ?_
  refine lv_iload_n hx hb dX2_order_21 rfl (lv_at hl 1 rfl) ?_
  refine va_iald hx hb hK hP 1 0 rfl rfl (by assumption) dX2_order_22 ?_
  refine lv_i2l hx hb dX2_order_23 rfl ?_
  refine lv_lmul hx hb dX2_order_24 ?_
  refine lv_aload_n hx hb dX2_order_25 rfl (lv_at hl 0 rfl) ?_
  refine va_get (D := D) (ci := 4) (v := .ref m1) (C := RX2) (T := TX2) (N := 6) hx hb hts in_X2_order_X2 hown hK hP 0 rfl rfl 1 (by decide) (hts (.fieldLink RX2 7 "NearestclockModel" "eighths" "[I") (List.mem_of_getElem? (i := 1) rfl)) (fun _ h9 => h9) rfl dX2_order_26 ?_
  refine lv_iload_n hx hb dX2_order_29 rfl (lv_at hl 2 rfl) ?_
  refine va_iald hx hb hK hP 1 0 rfl rfl (by assumption) dX2_order_30 ?_
  refine lv_i2l hx hb dX2_order_31 rfl ?_
  refine lv_lrem hx hb dX2_order_32 (n_l0 (ny_nz0 g0)) ?_
  refine lv_lconst (v := 0) hx hb dX2_order_33 (by decide) ?_
  refine W.lcmp hx hb dX2_order_34 ?_
  refine lv_if_eq (tgt := 44) hx hb dX2_order_35 (by decide) (fun c_35 => ?_) (fun c_35 => ?_)
  · refine lv_iload_n hx hb dX2_order_44 rfl (lv_at hl 3 rfl) ?_
    have hP9 := hP.sub (ws' := [(mo, .inr (4, [.int 0, .ref m1, .ref m2, .ref m3, .ref m4, .int mn])), (m1, .inl (cI, 12, .inl hf))]) [0, 1] rfl
    have hD9 := hD.sub (ws' := [(mo, .inr (4, [.int 0, .ref m1, .ref m2, .ref m3, .ref m4, .int mn])), (m1, .inl (cI, 12, .inl hf))]) [0, 1] (by decide) rfl
    exact W.iret (v := nI k) hx hb hr (fun t ht hW => ⟨⟨nI k, (), rfl, (by rw [(n_od3 (gH _ (n_ix gp0)) (gH _ (n_ix gp1)) g0).1, n_odE (ny_nz0 g0) ⟨hk1, hk2⟩ (hq.mp c_35)]), by rw [ht]; exact hP9, va_K.moved hW.alike hK, hD9⟩, hS.F ht⟩) hS.2.2 dX2_order_45
  · have h9 : ¬ k = ma_od (hf i0.toNatClampNeg).toInt (hf i1.toNatClampNeg).toInt := fun q => c_35 (hq.mpr (by rw [q]; exact n_od1 (ny_nz0 g0)))
    refine lv_iinc (v := nI (k + 1)) (lv' := [(3, .int (nI (k + 1))), (0, .ref mo), (1, .int i0), (2, .int i1)]) hx hb dX2_order_38 hl (k := 3) rfl (n_incN k) (by decide) rfl (fun ls hl => ?_)
    refine lv_goto (tgt := 15) hx hb dX2_order_41 (by decide) ?_
    exact ih (k + 1) (show 1 ≤ (k + 1) ∧ (k + 1) ≤ ma_od (hf i0.toNatClampNeg).toInt (hf i1.toNatClampNeg).toInt from ⟨by omega, by omega⟩) (show ma_od (hf i0.toNatClampNeg).toInt (hf i1.toNatClampNeg).toInt - (k + 1) < ma_od (hf i0.toNatClampNeg).toInt (hf i1.toNatClampNeg).toInt - k by omega) _ (lv_sub hl [1, 2, 3, 0] rfl)
set_option maxHeartbeats 4000000 in
set_option maxRecDepth 100000 in
theorem c_X2_order_noP (l : Launch) (D : va_G) (cI : ClassId) (mo : Nat) (m1 : Nat) (m2 : Nat) (m3 : Nat) (m4 : Nat) (sz : Nat) (th : Int32) (mn : Int32) (hf : Nat → Int32) (i0 : Int32) (i1 : Int32) (gb : ¬ vp_in i0 12 ∨ ¬ vp_in i1 12) : Met l yX2_order wsX2_order ({ frames := 2, cells := 0, slots := 0, locals := 46 }) (va_Pc [.ref mo, .int i0, .int i1] (ny_pre D [(cI, .int)] [(mo, .inr (4, [.int th, .ref m1, .ref m2, .ref m3, .ref m4, .int mn])), (m1, .inl (cI, 12, .inl hf))] sz)) (va_Qi (fun (r : Int32) (u : Unit) => r = 0) (fun (u : Unit) t => ny_at D [(cI, .int)] (va_A [(mo, .inr (4, [.int th, .ref m1, .ref m2, .ref m3, .ref m4, .int mn])), (m1, .inl (cI, 12, .inl hf))] sz) [(mo, .inr (4, [.int 1, .ref m1, .ref m2, .ref m3, .ref m4, .int mn])), (m1, .inl (cI, 12, .inl hf))] t) (va_A [(mo, .inr (4, [.int th, .ref m1, .ref m2, .ref m3, .ref m4, .int mn])), (m1, .inl (cI, 12, .inl hf))] sz)) 0 0 (va_A [(mo, .inr (4, [.int th, .ref m1, .ref m2, .ref m3, .ref m4, .int mn])), (m1, .inl (cI, 12, .inl hf))] sz) := by
  refine Met.ofW (cc := cX2_order) (maxL := 4) (ret := (some .int)) (by decide) rfl ?_
  intro p e s m args below meth c s₁ B hml hv
  obtain ⟨rfl, hsz, hP, hK, hD0, hE⟩ := hv
  have hx := B.exec
  have hb := B.bytes
  have hr := B.returns
  have hts := atoms_spec (ws := wsX2_order) B.pre
  have hown : s.vm.findClass RX2 = some m.cls := findClass_of_methodNamed B.named
  have hlocks := B.notSynchronized
  subst hsz
  have hD := hD0.self (sz := s.heap.size)
  generalize hAe : va_A [(mo, .inr (4, [.int th, .ref m1, .ref m2, .ref m3, .ref m4, .int mn])), (m1, .inl (cI, 12, .inl hf))] s.heap.size = A at hD hE ⊢
  have hA : ∀ q : Nat, s.heap.size ≤ q → A q := fun q h => by rw [← hAe]; exact Or.inr h
  have hS : va_S A s.heap s.heap [] := va_S.rf
  have hl := lv_entry ([.ref mo, .int i0, .int i1]) (n := 4) (Nat.le_of_ble_eq_true rfl)
  rw [lg_entry_eq]
  generalize (lg_sl ([.ref mo, .int i0, .int i1]) ++ List.replicate (4 - (lg_sl ([.ref mo, .int i0, .int i1])).length) Slot.unset).toArray = ls at hl ⊢
  have hl : lv_has ls 4 [(0, .ref mo), (1, .int i0), (2, .int i1)] := hl
  refine lv_aload_n hx hb dX2_order_0 rfl (lv_at hl 0 rfl) ?_
  refine lv_iload_n hx hb dX2_order_1 rfl (lv_at hl 1 rfl) ?_
  refine lv_iload_n hx hb dX2_order_2 rfl (lv_at hl 1 rfl) ?_
  refine lv_iload_n hx hb dX2_order_3 rfl (lv_at hl 1 rfl) ?_
  refine lv_iload_n hx hb dX2_order_4 rfl (lv_at hl 2 rfl) ?_
  refine ny_i (wc := [(mo, .inr (4, [.int th, .ref m1, .ref m2, .ref m3, .ref m4, .int mn])), (m1, .inl (cI, 12, .inl hf))]) (wr := []) hP hD hS hA [0, 1] [] rfl rfl (by decide) (by decide) (va_runV (As := [.int i0, .int i0, .int i0, .int i1]) (rest := []) ⟨hx, hb, hml, hown, hts⟩ (c_X2_isBad_noP l D cI mo m1 m2 m3 m4 s.heap.size th mn hf i0 i0 i0 i1 (by rcases gb with h | h <;> simp [h])) (cwV 4 hts gX2_order_X2_isBad rfl rfl rfl (by decide +kernel) ⟨Nat.le_of_ble_eq_true rfl, Nat.le_of_ble_eq_true rfl⟩) ⟨ny_blind, va_recv hK hP (ci := 4) (q0 := 0) rfl rfl, fun U hU hW => ⟨rfl, ny_preU hE hP hK hD hS hA [0, 1] rfl (by decide) rfl [0] rfl U hU hW⟩⟩ rfl rfl hl.1 rfl (lv_room (Nat.le_of_ble_eq_true rfl)) dX2_order_5 ⟨Nat.le_of_ble_eq_true rfl, Nat.le_of_ble_eq_true rfl⟩) (fun r_5 u H locs hw_5 hP hD hS => ?_)
  have hP : va_P D vwCl [(mo, .inr (4, [.int 1, .ref m1, .ref m2, .ref m3, .ref m4, .int mn])), (m1, .inl (cI, 12, .inl hf))] H := hP
  have hD : va_D A [(mo, .inr (4, [.int 1, .ref m1, .ref m2, .ref m3, .ref m4, .int mn])), (m1, .inl (cI, 12, .inl hf))] := hD
  have hw_5 : r_5 = 1 := hw_5
  subst hw_5
  refine lv_if_eq (tgt := 13) hx hb dX2_order_8 (by decide) (fun c_8 => absurd c_8 (show ¬ ((1 : Int32) = 0) by  decide)) (fun c_8 => ?_)
  refine lv_iconst (v := 0) hx hb dX2_order_11 (by decide) ?_
  have hP9 := hP.sub (ws' := [(mo, .inr (4, [.int 1, .ref m1, .ref m2, .ref m3, .ref m4, .int mn])), (m1, .inl (cI, 12, .inl hf))]) [0, 1] rfl
  have hD9 := hD.sub (ws' := [(mo, .inr (4, [.int 1, .ref m1, .ref m2, .ref m3, .ref m4, .int mn])), (m1, .inl (cI, 12, .inl hf))]) [0, 1] (by decide) rfl
  exact W.iret (v := 0) hx hb hr (fun t ht hW => ⟨⟨0, (), rfl, (rfl), by rw [ht]; exact hP9, va_K.moved hW.alike hK, hD9⟩, hS.F ht⟩) hS.2.2 dX2_order_12
set_option maxHeartbeats 4000000 in
set_option maxRecDepth 100000 in
theorem c_X2_order_no0 (l : Launch) (D : va_G) (cI : ClassId) (mo : Nat) (m1 : Nat) (m2 : Nat) (m3 : Nat) (m4 : Nat) (sz : Nat) (th : Int32) (mn : Int32) (hf : Nat → Int32) (i0 : Int32) (i1 : Int32) (gp0 : vp_in i0 12) (gp1 : vp_in i1 12) (g0 : hf i1.toNatClampNeg = 0) : Met l yX2_order wsX2_order ({ frames := 2, cells := 0, slots := 0, locals := 46 }) (va_Pc [.ref mo, .int i0, .int i1] (ny_pre D [(cI, .int)] [(mo, .inr (4, [.int th, .ref m1, .ref m2, .ref m3, .ref m4, .int mn])), (m1, .inl (cI, 12, .inl hf))] sz)) (va_Qi (fun (r : Int32) (u : Unit) => r = 0) (fun (u : Unit) t => ny_at D [(cI, .int)] (va_A [(mo, .inr (4, [.int th, .ref m1, .ref m2, .ref m3, .ref m4, .int mn])), (m1, .inl (cI, 12, .inl hf))] sz) [(mo, .inr (4, [.int 2, .ref m1, .ref m2, .ref m3, .ref m4, .int mn])), (m1, .inl (cI, 12, .inl hf))] t) (va_A [(mo, .inr (4, [.int th, .ref m1, .ref m2, .ref m3, .ref m4, .int mn])), (m1, .inl (cI, 12, .inl hf))] sz)) 0 0 (va_A [(mo, .inr (4, [.int th, .ref m1, .ref m2, .ref m3, .ref m4, .int mn])), (m1, .inl (cI, 12, .inl hf))] sz) := by
  refine Met.ofW (cc := cX2_order) (maxL := 4) (ret := (some .int)) (by decide) rfl ?_
  intro p e s m args below meth c s₁ B hml hv
  obtain ⟨rfl, hsz, hP, hK, hD0, hE⟩ := hv
  have hx := B.exec
  have hb := B.bytes
  have hr := B.returns
  have hts := atoms_spec (ws := wsX2_order) B.pre
  have hown : s.vm.findClass RX2 = some m.cls := findClass_of_methodNamed B.named
  have hlocks := B.notSynchronized
  subst hsz
  have hD := hD0.self (sz := s.heap.size)
  generalize hAe : va_A [(mo, .inr (4, [.int th, .ref m1, .ref m2, .ref m3, .ref m4, .int mn])), (m1, .inl (cI, 12, .inl hf))] s.heap.size = A at hD hE ⊢
  have hA : ∀ q : Nat, s.heap.size ≤ q → A q := fun q h => by rw [← hAe]; exact Or.inr h
  have hS : va_S A s.heap s.heap [] := va_S.rf
  have hl := lv_entry ([.ref mo, .int i0, .int i1]) (n := 4) (Nat.le_of_ble_eq_true rfl)
  rw [lg_entry_eq]
  generalize (lg_sl ([.ref mo, .int i0, .int i1]) ++ List.replicate (4 - (lg_sl ([.ref mo, .int i0, .int i1])).length) Slot.unset).toArray = ls at hl ⊢
  have hl : lv_has ls 4 [(0, .ref mo), (1, .int i0), (2, .int i1)] := hl
  refine lv_aload_n hx hb dX2_order_0 rfl (lv_at hl 0 rfl) ?_
  refine lv_iload_n hx hb dX2_order_1 rfl (lv_at hl 1 rfl) ?_
  refine lv_iload_n hx hb dX2_order_2 rfl (lv_at hl 1 rfl) ?_
  refine lv_iload_n hx hb dX2_order_3 rfl (lv_at hl 1 rfl) ?_
  refine lv_iload_n hx hb dX2_order_4 rfl (lv_at hl 2 rfl) ?_
  refine ny_i (wc := [(mo, .inr (4, [.int th, .ref m1, .ref m2, .ref m3, .ref m4, .int mn])), (m1, .inl (cI, 12, .inl hf))]) (wr := []) hP hD hS hA [0, 1] [] rfl rfl (by decide) (by decide) (va_runV (As := [.int i0, .int i0, .int i0, .int i1]) (rest := []) ⟨hx, hb, hml, hown, hts⟩ (c_X2_isBad_no0 l D cI mo m1 m2 m3 m4 s.heap.size th mn hf i0 i0 i0 i1 (by assumption) (by assumption) (by assumption) (by assumption) (by assumption)) (cwV 4 hts gX2_order_X2_isBad rfl rfl rfl (by decide +kernel) ⟨Nat.le_of_ble_eq_true rfl, Nat.le_of_ble_eq_true rfl⟩) ⟨ny_blind, va_recv hK hP (ci := 4) (q0 := 0) rfl rfl, fun U hU hW => ⟨rfl, ny_preU hE hP hK hD hS hA [0, 1] rfl (by decide) rfl [0] rfl U hU hW⟩⟩ rfl rfl hl.1 rfl (lv_room (Nat.le_of_ble_eq_true rfl)) dX2_order_5 ⟨Nat.le_of_ble_eq_true rfl, Nat.le_of_ble_eq_true rfl⟩) (fun r_5 u H locs hw_5 hP hD hS => ?_)
  have hP : va_P D vwCl [(mo, .inr (4, [.int 2, .ref m1, .ref m2, .ref m3, .ref m4, .int mn])), (m1, .inl (cI, 12, .inl hf))] H := hP
  have hD : va_D A [(mo, .inr (4, [.int 2, .ref m1, .ref m2, .ref m3, .ref m4, .int mn])), (m1, .inl (cI, 12, .inl hf))] := hD
  have hw_5 : r_5 = 1 := hw_5
  subst hw_5
  refine lv_if_eq (tgt := 13) hx hb dX2_order_8 (by decide) (fun c_8 => absurd c_8 (show ¬ ((1 : Int32) = 0) by  decide)) (fun c_8 => ?_)
  refine lv_iconst (v := 0) hx hb dX2_order_11 (by decide) ?_
  have hP9 := hP.sub (ws' := [(mo, .inr (4, [.int 2, .ref m1, .ref m2, .ref m3, .ref m4, .int mn])), (m1, .inl (cI, 12, .inl hf))]) [0, 1] rfl
  have hD9 := hD.sub (ws' := [(mo, .inr (4, [.int 2, .ref m1, .ref m2, .ref m3, .ref m4, .int mn])), (m1, .inl (cI, 12, .inl hf))]) [0, 1] (by decide) rfl
  exact W.iret (v := 0) hx hb hr (fun t ht hW => ⟨⟨0, (), rfl, (rfl), by rw [ht]; exact hP9, va_K.moved hW.alike hK, hD9⟩, hS.F ht⟩) hS.2.2 dX2_order_12
theorem in_X2_inverse_X2 : ∀ w ∈ wsX20, w ∈ wsX2_inverse := (fun _ h => List.mem_cons_of_mem _ (List.mem_append_left _ (List.mem_append_left _ (List.mem_append_right _ h))))
set_option maxHeartbeats 4000000 in
set_option maxRecDepth 100000 in
theorem c_X2_inverse (l : Launch) (D : va_G) (cI : ClassId) (cZ : ClassId) (mo : Nat) (m1 : Nat) (m2 : Nat) (m3 : Nat) (m4 : Nat) (sz : Nat) (th : Int32) (mn : Int32) (hf : Nat → Int32) (bf : Nat → Int32) (i0 : Int32) (i1 : Int32) (i2 : Int32) (gp0 : vp_in i0 12) (gp1 : vp_in i1 12) (gp2 : vp_in i2 12) (g0 : ¬ hf i2.toNatClampNeg = 0) (gH : ny_H hf) (gi : ¬ f_iv (hf i1.toNatClampNeg) (hf i2.toNatClampNeg) = 128) : Met l yX2_inverse wsX2_inverse ({ frames := 3, cells := 0, slots := 0, locals := 70 }) (va_Pc [.ref mo, .int i0, .int i1, .int i2] (ny_pre D [(cI, .int), (cZ, .boolean)] [(mo, .inr (4, [.int th, .ref m1, .ref m2, .ref m3, .ref m4, .int mn])), (m1, .inl (cI, 12, .inl hf)), (m2, .inl (cZ, 12, .inl bf))] sz)) (va_Ql (fun (r : Int64) (u : Unit) => r = f_bt (f_iv (hf i1.toNatClampNeg) (hf i2.toNatClampNeg)) 0) (fun (u : Unit) t => ny_at D [(cI, .int), (cZ, .boolean)] (va_A [(mo, .inr (4, [.int th, .ref m1, .ref m2, .ref m3, .ref m4, .int mn])), (m1, .inl (cI, 12, .inl hf)), (m2, .inl (cZ, 12, .inl bf))] sz) [(mo, .inr (4, [.int 0, .ref m1, .ref m2, .ref m3, .ref m4, .int mn])), (m1, .inl (cI, 12, .inl (upd hf i0.toNatClampNeg (f_iv (hf i1.toNatClampNeg) (hf i2.toNatClampNeg))))), (m2, .inl (cZ, 12, .inl (upd bf i0.toNatClampNeg 0)))] t) (va_A [(mo, .inr (4, [.int th, .ref m1, .ref m2, .ref m3, .ref m4, .int mn])), (m1, .inl (cI, 12, .inl hf)), (m2, .inl (cZ, 12, .inl bf))] sz)) 0 0 (va_A [(mo, .inr (4, [.int th, .ref m1, .ref m2, .ref m3, .ref m4, .int mn])), (m1, .inl (cI, 12, .inl hf)), (m2, .inl (cZ, 12, .inl bf))] sz) := by
  refine Met.ofW (cc := cX2_inverse) (maxL := 7) (ret := (some .long)) (by decide) rfl ?_
  intro p e s m args below meth c s₁ B hml hv
  obtain ⟨rfl, hsz, hP, hK, hD0, hE⟩ := hv
  have hx := B.exec
  have hb := B.bytes
  have hr := B.returns
  have hts := atoms_spec (ws := wsX2_inverse) B.pre
  have hown : s.vm.findClass RX2 = some m.cls := findClass_of_methodNamed B.named
  have hlocks := B.notSynchronized
  subst hsz
  have hD := hD0.self (sz := s.heap.size)
  generalize hAe : va_A [(mo, .inr (4, [.int th, .ref m1, .ref m2, .ref m3, .ref m4, .int mn])), (m1, .inl (cI, 12, .inl hf)), (m2, .inl (cZ, 12, .inl bf))] s.heap.size = A at hD hE ⊢
  have hA : ∀ q : Nat, s.heap.size ≤ q → A q := fun q h => by rw [← hAe]; exact Or.inr h
  have hS : va_S A s.heap s.heap [] := va_S.rf
  have hl := lv_entry ([.ref mo, .int i0, .int i1, .int i2]) (n := 7) (Nat.le_of_ble_eq_true rfl)
  rw [lg_entry_eq]
  generalize (lg_sl ([.ref mo, .int i0, .int i1, .int i2]) ++ List.replicate (7 - (lg_sl ([.ref mo, .int i0, .int i1, .int i2])).length) Slot.unset).toArray = ls at hl ⊢
  have hl : lv_has ls 7 [(0, .ref mo), (1, .int i0), (2, .int i1), (3, .int i2)] := hl
  refine lv_aload_n hx hb dX2_inverse_0 rfl (lv_at hl 0 rfl) ?_
  refine lv_iload_n hx hb dX2_inverse_1 rfl (lv_at hl 1 rfl) ?_
  refine lv_iload_n hx hb dX2_inverse_2 rfl (lv_at hl 2 rfl) ?_
  refine lv_iload_n hx hb dX2_inverse_3 rfl (lv_at hl 2 rfl) ?_
  refine lv_iload_n hx hb dX2_inverse_4 rfl (lv_at hl 3 rfl) ?_
  refine ny_i (wc := [(mo, .inr (4, [.int th, .ref m1, .ref m2, .ref m3, .ref m4, .int mn])), (m1, .inl (cI, 12, .inl hf))]) (wr := [(m2, .inl (cZ, 12, .inl bf))]) hP hD hS hA [0, 1] [2] rfl rfl (by decide) (by decide) (va_runV (As := [.int i0, .int i1, .int i1, .int i2]) (rest := []) ⟨hx, hb, hml, hown, hts⟩ (c_X2_isBad l D cI mo m1 m2 m3 m4 s.heap.size th mn hf i0 i1 i1 i2 (by assumption) (by assumption) (by assumption) (by assumption) (by assumption)) (cwV 4 hts gX2_inverse_X2_isBad rfl rfl rfl (by decide +kernel) ⟨Nat.le_of_ble_eq_true rfl, Nat.le_of_ble_eq_true rfl⟩) ⟨ny_blind, va_recv hK hP (ci := 4) (q0 := 0) rfl rfl, fun U hU hW => ⟨rfl, ny_preU hE hP hK hD hS hA [0, 1] rfl (by decide) rfl [0] rfl U hU hW⟩⟩ rfl rfl hl.1 rfl (lv_room (Nat.le_of_ble_eq_true rfl)) dX2_inverse_5 ⟨Nat.le_of_ble_eq_true rfl, Nat.le_of_ble_eq_true rfl⟩) (fun r_5 u H locs hw_5 hP hD hS => ?_)
  have hP : va_P D vwCl [(m2, .inl (cZ, 12, .inl bf)), (mo, .inr (4, [.int 0, .ref m1, .ref m2, .ref m3, .ref m4, .int mn])), (m1, .inl (cI, 12, .inl hf))] H := hP
  have hD : va_D A [(m2, .inl (cZ, 12, .inl bf)), (mo, .inr (4, [.int 0, .ref m1, .ref m2, .ref m3, .ref m4, .int mn])), (m1, .inl (cI, 12, .inl hf))] := hD
  have hw_5 : r_5 = 0 := hw_5
  subst hw_5
  refine lv_if_eq (tgt := 13) hx hb dX2_inverse_8 (by decide) (fun c_8 => ?_) (fun c_8 => absurd (show (0 : Int32) = 0 by  decide) c_8)
  refine lv_lconst (v := 1) hx hb dX2_inverse_13 (by decide) ?_
  refine lv_aload_n hx hb dX2_inverse_14 rfl (lv_at hl 0 rfl) ?_
  refine va_get (D := D) (ci := 4) (v := .ref m1) (C := RX2) (T := TX2) (N := 6) hx hb hts in_X2_inverse_X2 hown hK hP 1 rfl rfl 1 (by decide) (hts (.fieldLink RX2 7 "NearestclockModel" "eighths" "[I") (List.mem_of_getElem? (i := 1) rfl)) (fun _ h9 => h9) rfl dX2_inverse_15 ?_
  refine lv_iload_n hx hb dX2_inverse_18 rfl (lv_at hl 3 rfl) ?_
  refine va_iald hx hb hK hP 2 0 rfl rfl (by assumption) dX2_inverse_19 ?_
  refine vp_callSi (va_Run.run (va_runS (As := [.long 1, .int (hf i2.toNatClampNeg)]) (rest := []) ⟨hx, hb, hml, hown, hts⟩ (c_X2_residueOf l 1 (hf i2.toNatClampNeg) (gH _ (n_ix gp2)) (by assumption) (by decide)) (va_cwS 2 hts gX2_inverse_X2_residueOf rfl rfl rfl (by decide +kernel) ⟨Nat.le_of_ble_eq_true rfl, Nat.le_of_ble_eq_true rfl⟩) ⟨ny_blindT, fun U hU hW => ⟨rfl, trivial⟩⟩ rfl rfl hl.1 rfl (lv_room (Nat.le_of_ble_eq_true rfl)) dX2_inverse_20 ⟨Nat.le_of_ble_eq_true rfl, Nat.le_of_ble_eq_true rfl⟩)) (fun r_20 hw_20 => ?_)
  have hw_20 : r_20 = f_rs 1 (hf i2.toNatClampNeg) := hw_20
  subst hw_20
  refine ny_ti (x2 := f_rs 1 (hf i2.toNatClampNeg)) (rfl) ?_
  refine lv_istore (lv' := [(4, .int (f_rs 1 (hf i2.toNatClampNeg))), (0, .ref mo), (1, .int i0), (2, .int i1), (3, .int i2)]) hx hb dX2_inverse_23 hl (by decide) rfl (fun ls hl => ?_)
  refine lv_sipush (v := 128) hx hb dX2_inverse_25 (by decide) ?_
  refine ny_ti (x2 := Int32.ofInt (ma_ivF (hf i1.toNatClampNeg).toInt (hf i2.toNatClampNeg).toInt 0)) (rfl) ?_
  refine lv_istore (lv' := [(5, .int (Int32.ofInt (ma_ivF (hf i1.toNatClampNeg).toInt (hf i2.toNatClampNeg).toInt 0))), (4, .int (f_rs 1 (hf i2.toNatClampNeg))), (0, .ref mo), (1, .int i0), (2, .int i1), (3, .int i2)]) hx hb dX2_inverse_28 hl (by decide) rfl (fun ls hl => ?_)
  refine lv_bipush (v := -127) hx hb dX2_inverse_30 (by decide) ?_
  refine ny_ti (x2 := Int32.ofInt (((0 : Nat) : Int) - 127)) (by decide) ?_
  refine lv_istore (lv' := [(6, .int (Int32.ofInt (((0 : Nat) : Int) - 127))), (5, .int (Int32.ofInt (ma_ivF (hf i1.toNatClampNeg).toInt (hf i2.toNatClampNeg).toInt 0))), (4, .int (f_rs 1 (hf i2.toNatClampNeg))), (0, .ref mo), (1, .int i0), (2, .int i1), (3, .int i2)]) hx hb dX2_inverse_32 hl (by decide) rfl (fun ls hl => ?_)
  refine ny_lp 34 7 (fun u : Nat => u ≤ 255) (fun u => 255 - u) (fun u => [(0, .ref mo), (1, .int i0), (2, .int i1), (3, .int i2), (4, .int (f_rs 1 (hf i2.toNatClampNeg))), (5, .int (Int32.ofInt (ma_ivF (hf i1.toNatClampNeg).toInt (hf i2.toNatClampNeg).toInt u))), (6, .int (Int32.ofInt ((u : Int) - 127)))]) (fun u hu ih ls hl => ?_) 0 (show 0 ≤ 255 from Nat.zero_le _) (lv_sub hl [3, 4, 5, 6, 2, 1, 0] rfl)
  obtain ⟨k, rfl⟩ : ∃ z, z = u := ⟨_, rfl⟩
  have hk : k ≤ 255 := hu
  have hl : lv_has ls 7 [(0, .ref mo), (1, .int i0), (2, .int i1), (3, .int i2), (4, .int (f_rs 1 (hf i2.toNatClampNeg))), (5, .int (Int32.ofInt (ma_ivF (hf i1.toNatClampNeg).toInt (hf i2.toNatClampNeg).toInt k))), (6, .int (Int32.ofInt ((k : Int) - 127)))] := hl
  have hkq := n_iv127 hk
  refine lv_iload hx hb dX2_inverse_34 (lv_at hl 6 rfl) ?_
  refine lv_bipush (v := 127) hx hb dX2_inverse_36 (by decide) ?_
  refine lv_icmp_gt (tgt := 98) hx hb dX2_inverse_38 (by decide) (fun c_38 => ?_) (fun c_38 => ?_)
  · have hke := hkq.mp c_38
    subst hke
    have hl : lv_has ls 7 [(0, .ref mo), (1, .int i0), (2, .int i1), (3, .int i2), (4, .int (f_rs 1 (hf i2.toNatClampNeg))), (5, .int (f_iv (hf i1.toNatClampNeg) (hf i2.toNatClampNeg))), (6, .int (Int32.ofInt ((255 : Int) - 127)))] := hl
    refine lv_aload_n hx hb dX2_inverse_98 rfl (lv_at hl 0 rfl) ?_
    refine lv_iload hx hb dX2_inverse_99 (lv_at hl 5 rfl) ?_
    refine lv_bipush (v := 127) hx hb dX2_inverse_101 (by decide) ?_
    refine lv_icmp_le (tgt := 110) hx hb dX2_inverse_103 (by decide) (fun c_103 => ?_) (fun c_103 => absurd (show ((f_iv (hf i1.toNatClampNeg) (hf i2.toNatClampNeg)) : Int32) ≤ 127 from (n_ivLE _ _).mpr gi) c_103)
    refine lv_iconst (v := 0) hx hb dX2_inverse_110 (by decide) ?_
    refine lv_iconst (v := 2) hx hb dX2_inverse_111 (by decide) ?_
    refine ny_i (wc := [(mo, .inr (4, [.int 0, .ref m1, .ref m2, .ref m3, .ref m4, .int mn]))]) (wr := [(m2, .inl (cZ, 12, .inl bf)), (m1, .inl (cI, 12, .inl hf))]) hP hD hS hA [1] [0, 2] rfl rfl (by decide) (by decide) (va_runV (As := [.int 0, .int 2]) (rest := []) ⟨hx, hb, hml, hown, hts⟩ (c_X2_isThrown_0 l D mo m1 m2 m3 m4 H.size 0 mn 2) (cwV 2 hts gX2_inverse_X2_isThrown rfl rfl rfl (by decide +kernel) ⟨Nat.le_of_ble_eq_true rfl, Nat.le_of_ble_eq_true rfl⟩) ⟨ny_blind, va_recv hK hP (ci := 4) (q0 := 1) rfl rfl, fun U hU hW => ⟨rfl, ny_preU hE hP hK hD hS hA [1] rfl (by decide) rfl [] rfl U hU hW⟩⟩ rfl rfl hl.1 rfl (lv_room (Nat.le_of_ble_eq_true rfl)) dX2_inverse_112 ⟨Nat.le_of_ble_eq_true rfl, Nat.le_of_ble_eq_true rfl⟩) (fun r_112 u H locs hw_112 hP hD hS => ?_)
    have hP : va_P D vwCl [(m2, .inl (cZ, 12, .inl bf)), (m1, .inl (cI, 12, .inl hf)), (mo, .inr (4, [.int 0, .ref m1, .ref m2, .ref m3, .ref m4, .int mn]))] H := hP
    have hD : va_D A [(m2, .inl (cZ, 12, .inl bf)), (m1, .inl (cI, 12, .inl hf)), (mo, .inr (4, [.int 0, .ref m1, .ref m2, .ref m3, .ref m4, .int mn]))] := hD
    have hw_112 : r_112 = 0 := hw_112
    subst hw_112
    refine lv_if_eq (tgt := 122) hx hb dX2_inverse_115 (by decide) (fun c_115 => ?_) (fun c_115 => absurd (show (0 : Int32) = 0 by  decide) c_115)
    refine lv_aload_n hx hb dX2_inverse_122 rfl (lv_at hl 0 rfl) ?_
    refine lv_iload_n hx hb dX2_inverse_123 rfl (lv_at hl 1 rfl) ?_
    refine lv_iload hx hb dX2_inverse_124 (lv_at hl 5 rfl) ?_
    refine lv_iconst (v := 0) hx hb dX2_inverse_126 (by decide) ?_
    refine ny_l (wc := [(mo, .inr (4, [.int 0, .ref m1, .ref m2, .ref m3, .ref m4, .int mn])), (m1, .inl (cI, 12, .inl hf)), (m2, .inl (cZ, 12, .inl bf))]) (wr := []) hP hD hS hA [2, 1, 0] [] rfl rfl (by decide) (by decide) (va_runV (As := [.int i0, .int (f_iv (hf i1.toNatClampNeg) (hf i2.toNatClampNeg)), .int 0]) (rest := []) ⟨hx, hb, hml, hown, hts⟩ (c_X2_lays l D cI cZ mo m1 m2 m3 m4 H.size 0 mn hf bf i0 (f_iv (hf i1.toNatClampNeg) (hf i2.toNatClampNeg)) 0 (by assumption) (n_R_iv gi) (Or.inl rfl)) (cwV 3 hts gX2_inverse_X2_lays rfl rfl rfl (by decide +kernel) ⟨Nat.le_of_ble_eq_true rfl, Nat.le_of_ble_eq_true rfl⟩) ⟨ny_blind, va_recv hK hP (ci := 4) (q0 := 2) rfl rfl, fun U hU hW => ⟨rfl, ny_preU hE hP hK hD hS hA [2, 1, 0] rfl (by decide) rfl [0, 1] rfl U hU hW⟩⟩ rfl rfl hl.1 rfl (lv_room (Nat.le_of_ble_eq_true rfl)) dX2_inverse_127 ⟨Nat.le_of_ble_eq_true rfl, Nat.le_of_ble_eq_true rfl⟩) (fun r_127 u H locs hw_127 hP hD hS => ?_)
    have hP : va_P D vwCl [(mo, .inr (4, [.int 0, .ref m1, .ref m2, .ref m3, .ref m4, .int mn])), (m1, .inl (cI, 12, .inl (upd hf i0.toNatClampNeg (f_iv (hf i1.toNatClampNeg) (hf i2.toNatClampNeg))))), (m2, .inl (cZ, 12, .inl (upd bf i0.toNatClampNeg (f_z (f_iv (hf i1.toNatClampNeg) (hf i2.toNatClampNeg)) 0))))] H := hP
    have hD : va_D A [(mo, .inr (4, [.int 0, .ref m1, .ref m2, .ref m3, .ref m4, .int mn])), (m1, .inl (cI, 12, .inl (upd hf i0.toNatClampNeg (f_iv (hf i1.toNatClampNeg) (hf i2.toNatClampNeg))))), (m2, .inl (cZ, 12, .inl (upd bf i0.toNatClampNeg (f_z (f_iv (hf i1.toNatClampNeg) (hf i2.toNatClampNeg)) 0))))] := hD
    have hw_127 : r_127 = f_bt (f_iv (hf i1.toNatClampNeg) (hf i2.toNatClampNeg)) 0 := hw_127
    subst hw_127
    have hP9 := hP.sub (ws' := [(mo, .inr (4, [.int 0, .ref m1, .ref m2, .ref m3, .ref m4, .int mn])), (m1, .inl (cI, 12, .inl (upd hf i0.toNatClampNeg (f_iv (hf i1.toNatClampNeg) (hf i2.toNatClampNeg))))), (m2, .inl (cZ, 12, .inl (upd bf i0.toNatClampNeg (f_z (f_iv (hf i1.toNatClampNeg) (hf i2.toNatClampNeg)) 0))))]) [0, 1, 2] rfl
    have hD9 := hD.sub (ws' := [(mo, .inr (4, [.int 0, .ref m1, .ref m2, .ref m3, .ref m4, .int mn])), (m1, .inl (cI, 12, .inl (upd hf i0.toNatClampNeg (f_iv (hf i1.toNatClampNeg) (hf i2.toNatClampNeg))))), (m2, .inl (cZ, 12, .inl (upd bf i0.toNatClampNeg (f_z (f_iv (hf i1.toNatClampNeg) (hf i2.toNatClampNeg)) 0))))]) [0, 1, 2] (by decide) rfl
    rw [f_z_0] at hP9 hD9
    exact W.lret (v := f_bt (f_iv (hf i1.toNatClampNeg) (hf i2.toNatClampNeg)) 0) hx hb hr (fun t ht hW => ⟨⟨f_bt (f_iv (hf i1.toNatClampNeg) (hf i2.toNatClampNeg)) 0, (), rfl, (rfl), by rw [ht]; exact hP9, va_K.moved hW.alike hK, hD9⟩, hS.F ht⟩) hS.2.2 dX2_inverse_130
  · have hk3 : k < 255 := by have h9 : ¬ k = 255 := fun q => c_38 (hkq.mpr q); omega
    refine lv_iload hx hb dX2_inverse_41 (lv_at hl 6 rfl) ?_
    refine lv_i2l hx hb dX2_inverse_43 rfl ?_
    refine lv_aload_n hx hb dX2_inverse_44 rfl (lv_at hl 0 rfl) ?_
    refine va_get (D := D) (ci := 4) (v := .ref m1) (C := RX2) (T := TX2) (N := 6) hx hb hts in_X2_inverse_X2 hown hK hP 1 rfl rfl 1 (by decide) (hts (.fieldLink RX2 7 "NearestclockModel" "eighths" "[I") (List.mem_of_getElem? (i := 1) rfl)) (fun _ h9 => h9) rfl dX2_inverse_45 ?_
    refine lv_iload_n hx hb dX2_inverse_48 rfl (lv_at hl 3 rfl) ?_
    refine va_iald hx hb hK hP 2 0 rfl rfl (by assumption) dX2_inverse_49 ?_
    refine vp_callSi (va_Run.run (va_runS (As := [.long ((Int32.ofInt ((k : Int) - 127)).toInt64), .int (hf i2.toNatClampNeg)]) (rest := []) ⟨hx, hb, hml, hown, hts⟩ (c_X2_residueOf l ((Int32.ofInt ((k : Int) - 127)).toInt64) (hf i2.toNatClampNeg) (gH _ (n_ix gp2)) (by assumption) (n_lb _)) (va_cwS 2 hts gX2_inverse_X2_residueOf rfl rfl rfl (by decide +kernel) ⟨Nat.le_of_ble_eq_true rfl, Nat.le_of_ble_eq_true rfl⟩) ⟨ny_blindT, fun U hU hW => ⟨rfl, trivial⟩⟩ rfl rfl hl.1 rfl (lv_room (Nat.le_of_ble_eq_true rfl)) dX2_inverse_50 ⟨Nat.le_of_ble_eq_true rfl, Nat.le_of_ble_eq_true rfl⟩)) (fun r_50 hw_50 => ?_)
    have hw_50 : r_50 = f_rs ((Int32.ofInt ((k : Int) - 127)).toInt64) (hf i2.toNatClampNeg) := hw_50
    subst hw_50
    refine lv_iload hx hb dX2_inverse_53 (lv_at hl 6 rfl) ?_
    refine lv_icmp_ne (tgt := 88) hx hb dX2_inverse_55 (by decide) (fun c_55 => ?_) (fun c_55 => ?_)
    · refine lv_iload hx hb dX2_inverse_88 (lv_at hl 5 rfl) ?_
      refine ny_ti (x2 := Int32.ofInt (ma_ivF (hf i1.toNatClampNeg).toInt (hf i2.toNatClampNeg).toInt (k + 1))) (n_ivU2 (fun q => c_55 ((n_ivS (gH _ (n_ix gp2)) g0 (gH _ (n_ix gp1)) hk3).1.mpr q.1))) ?_
      refine lv_istore (lv' := [(5, .int (Int32.ofInt (ma_ivF (hf i1.toNatClampNeg).toInt (hf i2.toNatClampNeg).toInt (k + 1)))), (0, .ref mo), (1, .int i0), (2, .int i1), (3, .int i2), (4, .int (f_rs 1 (hf i2.toNatClampNeg))), (6, .int (Int32.ofInt ((k : Int) - 127)))]) hx hb dX2_inverse_90 hl (by decide) rfl (fun ls hl => ?_)
      refine lv_iinc (v := Int32.ofInt (((k + 1 : Nat) : Int) - 127)) (lv' := [(6, .int (Int32.ofInt (((k + 1 : Nat) : Int) - 127))), (5, .int (Int32.ofInt (ma_ivF (hf i1.toNatClampNeg).toInt (hf i2.toNatClampNeg).toInt (k + 1)))), (0, .ref mo), (1, .int i0), (2, .int i1), (3, .int i2), (4, .int (f_rs 1 (hf i2.toNatClampNeg)))]) hx hb dX2_inverse_92 hl (k := 6) rfl (n_ivI k) (by decide) rfl (fun ls hl => ?_)
      refine lv_goto (tgt := 34) hx hb dX2_inverse_95 (by decide) ?_
      exact ih (k + 1) (show (k + 1) ≤ 255 from by omega) (show 255 - (k + 1) < 255 - k by omega) _ (lv_sub hl [2, 3, 4, 5, 6, 1, 0] rfl)
    · refine lv_aload_n hx hb dX2_inverse_58 rfl (lv_at hl 0 rfl) ?_
      refine va_get (D := D) (ci := 4) (v := .ref m1) (C := RX2) (T := TX2) (N := 6) hx hb hts in_X2_inverse_X2 hown hK hP 1 rfl rfl 1 (by decide) (hts (.fieldLink RX2 7 "NearestclockModel" "eighths" "[I") (List.mem_of_getElem? (i := 1) rfl)) (fun _ h9 => h9) rfl dX2_inverse_59 ?_
      refine lv_iload_n hx hb dX2_inverse_62 rfl (lv_at hl 2 rfl) ?_
      refine va_iald hx hb hK hP 2 0 rfl rfl (by assumption) dX2_inverse_63 ?_
      refine lv_i2l hx hb dX2_inverse_64 rfl ?_
      refine lv_iload hx hb dX2_inverse_65 (lv_at hl 6 rfl) ?_
      refine lv_i2l hx hb dX2_inverse_67 rfl ?_
      refine lv_lmul hx hb dX2_inverse_68 ?_
      refine lv_aload_n hx hb dX2_inverse_69 rfl (lv_at hl 0 rfl) ?_
      refine va_get (D := D) (ci := 4) (v := .ref m1) (C := RX2) (T := TX2) (N := 6) hx hb hts in_X2_inverse_X2 hown hK hP 1 rfl rfl 1 (by decide) (hts (.fieldLink RX2 7 "NearestclockModel" "eighths" "[I") (List.mem_of_getElem? (i := 1) rfl)) (fun _ h9 => h9) rfl dX2_inverse_70 ?_
      refine lv_iload_n hx hb dX2_inverse_73 rfl (lv_at hl 3 rfl) ?_
      refine va_iald hx hb hK hP 2 0 rfl rfl (by assumption) dX2_inverse_74 ?_
      refine vp_callSi (va_Run.run (va_runS (As := [.long (((hf i1.toNatClampNeg).toInt64) * ((Int32.ofInt ((k : Int) - 127)).toInt64)), .int (hf i2.toNatClampNeg)]) (rest := []) ⟨hx, hb, hml, hown, hts⟩ (c_X2_residueOf l (((hf i1.toNatClampNeg).toInt64) * ((Int32.ofInt ((k : Int) - 127)).toInt64)) (hf i2.toNatClampNeg) (gH _ (n_ix gp2)) (by assumption) (n_ivB (gH _ (n_ix gp1)) hk3)) (va_cwS 2 hts gX2_inverse_X2_residueOf rfl rfl rfl (by decide +kernel) ⟨Nat.le_of_ble_eq_true rfl, Nat.le_of_ble_eq_true rfl⟩) ⟨ny_blindT, fun U hU hW => ⟨rfl, trivial⟩⟩ rfl rfl hl.1 rfl (lv_room (Nat.le_of_ble_eq_true rfl)) dX2_inverse_75 ⟨Nat.le_of_ble_eq_true rfl, Nat.le_of_ble_eq_true rfl⟩)) (fun r_75 hw_75 => ?_)
      have hw_75 : r_75 = f_rs (((hf i1.toNatClampNeg).toInt64) * ((Int32.ofInt ((k : Int) - 127)).toInt64)) (hf i2.toNatClampNeg) := hw_75
      subst hw_75
      refine lv_iload hx hb dX2_inverse_78 (lv_at hl 4 rfl) ?_
      refine lv_icmp_ne (tgt := 88) hx hb dX2_inverse_80 (by decide) (fun c_80 => ?_) (fun c_80 => ?_)
      · refine lv_iload hx hb dX2_inverse_88 (lv_at hl 5 rfl) ?_
        refine ny_ti (x2 := Int32.ofInt (ma_ivF (hf i1.toNatClampNeg).toInt (hf i2.toNatClampNeg).toInt (k + 1))) (n_ivU2 (fun q => c_80 ((n_ivS (gH _ (n_ix gp2)) g0 (gH _ (n_ix gp1)) hk3).2.mpr q.2))) ?_
        refine lv_istore (lv' := [(5, .int (Int32.ofInt (ma_ivF (hf i1.toNatClampNeg).toInt (hf i2.toNatClampNeg).toInt (k + 1)))), (0, .ref mo), (1, .int i0), (2, .int i1), (3, .int i2), (4, .int (f_rs 1 (hf i2.toNatClampNeg))), (6, .int (Int32.ofInt ((k : Int) - 127)))]) hx hb dX2_inverse_90 hl (by decide) rfl (fun ls hl => ?_)
        refine lv_iinc (v := Int32.ofInt (((k + 1 : Nat) : Int) - 127)) (lv' := [(6, .int (Int32.ofInt (((k + 1 : Nat) : Int) - 127))), (5, .int (Int32.ofInt (ma_ivF (hf i1.toNatClampNeg).toInt (hf i2.toNatClampNeg).toInt (k + 1)))), (0, .ref mo), (1, .int i0), (2, .int i1), (3, .int i2), (4, .int (f_rs 1 (hf i2.toNatClampNeg)))]) hx hb dX2_inverse_92 hl (k := 6) rfl (n_ivI k) (by decide) rfl (fun ls hl => ?_)
        refine lv_goto (tgt := 34) hx hb dX2_inverse_95 (by decide) ?_
        exact ih (k + 1) (show (k + 1) ≤ 255 from by omega) (show 255 - (k + 1) < 255 - k by omega) _ (lv_sub hl [2, 3, 4, 5, 6, 1, 0] rfl)
      · refine lv_iload hx hb dX2_inverse_83 (lv_at hl 6 rfl) ?_
        refine lv_goto (tgt := 90) hx hb dX2_inverse_85 (by decide) ?_
        refine ny_ti (x2 := Int32.ofInt (ma_ivF (hf i1.toNatClampNeg).toInt (hf i2.toNatClampNeg).toInt (k + 1))) (n_ivU1 ((n_ivS (gH _ (n_ix gp2)) g0 (gH _ (n_ix gp1)) hk3).1.mp c_55) ((n_ivS (gH _ (n_ix gp2)) g0 (gH _ (n_ix gp1)) hk3).2.mp c_80)) ?_
        refine lv_istore (lv' := [(5, .int (Int32.ofInt (ma_ivF (hf i1.toNatClampNeg).toInt (hf i2.toNatClampNeg).toInt (k + 1)))), (0, .ref mo), (1, .int i0), (2, .int i1), (3, .int i2), (4, .int (f_rs 1 (hf i2.toNatClampNeg))), (6, .int (Int32.ofInt ((k : Int) - 127)))]) hx hb dX2_inverse_90 hl (by decide) rfl (fun ls hl => ?_)
        refine lv_iinc (v := Int32.ofInt (((k + 1 : Nat) : Int) - 127)) (lv' := [(6, .int (Int32.ofInt (((k + 1 : Nat) : Int) - 127))), (5, .int (Int32.ofInt (ma_ivF (hf i1.toNatClampNeg).toInt (hf i2.toNatClampNeg).toInt (k + 1)))), (0, .ref mo), (1, .int i0), (2, .int i1), (3, .int i2), (4, .int (f_rs 1 (hf i2.toNatClampNeg)))]) hx hb dX2_inverse_92 hl (k := 6) rfl (n_ivI k) (by decide) rfl (fun ls hl => ?_)
        refine lv_goto (tgt := 34) hx hb dX2_inverse_95 (by decide) ?_
        exact ih (k + 1) (show (k + 1) ≤ 255 from by omega) (show 255 - (k + 1) < 255 - k by omega) _ (lv_sub hl [2, 3, 4, 5, 6, 1, 0] rfl)
set_option maxHeartbeats 4000000 in
set_option maxRecDepth 100000 in
theorem c_X2_inverse_noP (l : Launch) (D : va_G) (cI : ClassId) (cZ : ClassId) (mo : Nat) (m1 : Nat) (m2 : Nat) (m3 : Nat) (m4 : Nat) (sz : Nat) (th : Int32) (mn : Int32) (hf : Nat → Int32) (bf : Nat → Int32) (i0 : Int32) (i1 : Int32) (i2 : Int32) (gb : ¬ vp_in i0 12 ∨ (¬ vp_in i1 12 ∨ ¬ vp_in i2 12)) : Met l yX2_inverse wsX2_inverse ({ frames := 2, cells := 0, slots := 0, locals := 46 }) (va_Pc [.ref mo, .int i0, .int i1, .int i2] (ny_pre D [(cI, .int), (cZ, .boolean)] [(mo, .inr (4, [.int th, .ref m1, .ref m2, .ref m3, .ref m4, .int mn])), (m1, .inl (cI, 12, .inl hf)), (m2, .inl (cZ, 12, .inl bf))] sz)) (va_Ql (fun (r : Int64) (u : Unit) => r = 0) (fun (u : Unit) t => ny_at D [(cI, .int), (cZ, .boolean)] (va_A [(mo, .inr (4, [.int th, .ref m1, .ref m2, .ref m3, .ref m4, .int mn])), (m1, .inl (cI, 12, .inl hf)), (m2, .inl (cZ, 12, .inl bf))] sz) [(mo, .inr (4, [.int 1, .ref m1, .ref m2, .ref m3, .ref m4, .int mn])), (m1, .inl (cI, 12, .inl hf)), (m2, .inl (cZ, 12, .inl bf))] t) (va_A [(mo, .inr (4, [.int th, .ref m1, .ref m2, .ref m3, .ref m4, .int mn])), (m1, .inl (cI, 12, .inl hf)), (m2, .inl (cZ, 12, .inl bf))] sz)) 0 0 (va_A [(mo, .inr (4, [.int th, .ref m1, .ref m2, .ref m3, .ref m4, .int mn])), (m1, .inl (cI, 12, .inl hf)), (m2, .inl (cZ, 12, .inl bf))] sz) := by
  refine Met.ofW (cc := cX2_inverse) (maxL := 7) (ret := (some .long)) (by decide) rfl ?_
  intro p e s m args below meth c s₁ B hml hv
  obtain ⟨rfl, hsz, hP, hK, hD0, hE⟩ := hv
  have hx := B.exec
  have hb := B.bytes
  have hr := B.returns
  have hts := atoms_spec (ws := wsX2_inverse) B.pre
  have hown : s.vm.findClass RX2 = some m.cls := findClass_of_methodNamed B.named
  have hlocks := B.notSynchronized
  subst hsz
  have hD := hD0.self (sz := s.heap.size)
  generalize hAe : va_A [(mo, .inr (4, [.int th, .ref m1, .ref m2, .ref m3, .ref m4, .int mn])), (m1, .inl (cI, 12, .inl hf)), (m2, .inl (cZ, 12, .inl bf))] s.heap.size = A at hD hE ⊢
  have hA : ∀ q : Nat, s.heap.size ≤ q → A q := fun q h => by rw [← hAe]; exact Or.inr h
  have hS : va_S A s.heap s.heap [] := va_S.rf
  have hl := lv_entry ([.ref mo, .int i0, .int i1, .int i2]) (n := 7) (Nat.le_of_ble_eq_true rfl)
  rw [lg_entry_eq]
  generalize (lg_sl ([.ref mo, .int i0, .int i1, .int i2]) ++ List.replicate (7 - (lg_sl ([.ref mo, .int i0, .int i1, .int i2])).length) Slot.unset).toArray = ls at hl ⊢
  have hl : lv_has ls 7 [(0, .ref mo), (1, .int i0), (2, .int i1), (3, .int i2)] := hl
  refine lv_aload_n hx hb dX2_inverse_0 rfl (lv_at hl 0 rfl) ?_
  refine lv_iload_n hx hb dX2_inverse_1 rfl (lv_at hl 1 rfl) ?_
  refine lv_iload_n hx hb dX2_inverse_2 rfl (lv_at hl 2 rfl) ?_
  refine lv_iload_n hx hb dX2_inverse_3 rfl (lv_at hl 2 rfl) ?_
  refine lv_iload_n hx hb dX2_inverse_4 rfl (lv_at hl 3 rfl) ?_
  refine ny_i (wc := [(mo, .inr (4, [.int th, .ref m1, .ref m2, .ref m3, .ref m4, .int mn])), (m1, .inl (cI, 12, .inl hf))]) (wr := [(m2, .inl (cZ, 12, .inl bf))]) hP hD hS hA [0, 1] [2] rfl rfl (by decide) (by decide) (va_runV (As := [.int i0, .int i1, .int i1, .int i2]) (rest := []) ⟨hx, hb, hml, hown, hts⟩ (c_X2_isBad_noP l D cI mo m1 m2 m3 m4 s.heap.size th mn hf i0 i1 i1 i2 (by rcases gb with h | h | h <;> simp [h])) (cwV 4 hts gX2_inverse_X2_isBad rfl rfl rfl (by decide +kernel) ⟨Nat.le_of_ble_eq_true rfl, Nat.le_of_ble_eq_true rfl⟩) ⟨ny_blind, va_recv hK hP (ci := 4) (q0 := 0) rfl rfl, fun U hU hW => ⟨rfl, ny_preU hE hP hK hD hS hA [0, 1] rfl (by decide) rfl [0] rfl U hU hW⟩⟩ rfl rfl hl.1 rfl (lv_room (Nat.le_of_ble_eq_true rfl)) dX2_inverse_5 ⟨Nat.le_of_ble_eq_true rfl, Nat.le_of_ble_eq_true rfl⟩) (fun r_5 u H locs hw_5 hP hD hS => ?_)
  have hP : va_P D vwCl [(m2, .inl (cZ, 12, .inl bf)), (mo, .inr (4, [.int 1, .ref m1, .ref m2, .ref m3, .ref m4, .int mn])), (m1, .inl (cI, 12, .inl hf))] H := hP
  have hD : va_D A [(m2, .inl (cZ, 12, .inl bf)), (mo, .inr (4, [.int 1, .ref m1, .ref m2, .ref m3, .ref m4, .int mn])), (m1, .inl (cI, 12, .inl hf))] := hD
  have hw_5 : r_5 = 1 := hw_5
  subst hw_5
  refine lv_if_eq (tgt := 13) hx hb dX2_inverse_8 (by decide) (fun c_8 => absurd c_8 (show ¬ ((1 : Int32) = 0) by  decide)) (fun c_8 => ?_)
  refine lv_lconst (v := 0) hx hb dX2_inverse_11 (by decide) ?_
  have hP9 := hP.sub (ws' := [(mo, .inr (4, [.int 1, .ref m1, .ref m2, .ref m3, .ref m4, .int mn])), (m1, .inl (cI, 12, .inl hf)), (m2, .inl (cZ, 12, .inl bf))]) [1, 2, 0] rfl
  have hD9 := hD.sub (ws' := [(mo, .inr (4, [.int 1, .ref m1, .ref m2, .ref m3, .ref m4, .int mn])), (m1, .inl (cI, 12, .inl hf)), (m2, .inl (cZ, 12, .inl bf))]) [1, 2, 0] (by decide) rfl
  exact W.lret (v := 0) hx hb hr (fun t ht hW => ⟨⟨0, (), rfl, (rfl), by rw [ht]; exact hP9, va_K.moved hW.alike hK, hD9⟩, hS.F ht⟩) hS.2.2 dX2_inverse_12
set_option maxHeartbeats 4000000 in
set_option maxRecDepth 100000 in
theorem c_X2_inverse_no0 (l : Launch) (D : va_G) (cI : ClassId) (cZ : ClassId) (mo : Nat) (m1 : Nat) (m2 : Nat) (m3 : Nat) (m4 : Nat) (sz : Nat) (th : Int32) (mn : Int32) (hf : Nat → Int32) (bf : Nat → Int32) (i0 : Int32) (i1 : Int32) (i2 : Int32) (gp0 : vp_in i0 12) (gp1 : vp_in i1 12) (gp2 : vp_in i2 12) (g0 : hf i2.toNatClampNeg = 0) : Met l yX2_inverse wsX2_inverse ({ frames := 2, cells := 0, slots := 0, locals := 46 }) (va_Pc [.ref mo, .int i0, .int i1, .int i2] (ny_pre D [(cI, .int), (cZ, .boolean)] [(mo, .inr (4, [.int th, .ref m1, .ref m2, .ref m3, .ref m4, .int mn])), (m1, .inl (cI, 12, .inl hf)), (m2, .inl (cZ, 12, .inl bf))] sz)) (va_Ql (fun (r : Int64) (u : Unit) => r = 0) (fun (u : Unit) t => ny_at D [(cI, .int), (cZ, .boolean)] (va_A [(mo, .inr (4, [.int th, .ref m1, .ref m2, .ref m3, .ref m4, .int mn])), (m1, .inl (cI, 12, .inl hf)), (m2, .inl (cZ, 12, .inl bf))] sz) [(mo, .inr (4, [.int 2, .ref m1, .ref m2, .ref m3, .ref m4, .int mn])), (m1, .inl (cI, 12, .inl hf)), (m2, .inl (cZ, 12, .inl bf))] t) (va_A [(mo, .inr (4, [.int th, .ref m1, .ref m2, .ref m3, .ref m4, .int mn])), (m1, .inl (cI, 12, .inl hf)), (m2, .inl (cZ, 12, .inl bf))] sz)) 0 0 (va_A [(mo, .inr (4, [.int th, .ref m1, .ref m2, .ref m3, .ref m4, .int mn])), (m1, .inl (cI, 12, .inl hf)), (m2, .inl (cZ, 12, .inl bf))] sz) := by
  refine Met.ofW (cc := cX2_inverse) (maxL := 7) (ret := (some .long)) (by decide) rfl ?_
  intro p e s m args below meth c s₁ B hml hv
  obtain ⟨rfl, hsz, hP, hK, hD0, hE⟩ := hv
  have hx := B.exec
  have hb := B.bytes
  have hr := B.returns
  have hts := atoms_spec (ws := wsX2_inverse) B.pre
  have hown : s.vm.findClass RX2 = some m.cls := findClass_of_methodNamed B.named
  have hlocks := B.notSynchronized
  subst hsz
  have hD := hD0.self (sz := s.heap.size)
  generalize hAe : va_A [(mo, .inr (4, [.int th, .ref m1, .ref m2, .ref m3, .ref m4, .int mn])), (m1, .inl (cI, 12, .inl hf)), (m2, .inl (cZ, 12, .inl bf))] s.heap.size = A at hD hE ⊢
  have hA : ∀ q : Nat, s.heap.size ≤ q → A q := fun q h => by rw [← hAe]; exact Or.inr h
  have hS : va_S A s.heap s.heap [] := va_S.rf
  have hl := lv_entry ([.ref mo, .int i0, .int i1, .int i2]) (n := 7) (Nat.le_of_ble_eq_true rfl)
  rw [lg_entry_eq]
  generalize (lg_sl ([.ref mo, .int i0, .int i1, .int i2]) ++ List.replicate (7 - (lg_sl ([.ref mo, .int i0, .int i1, .int i2])).length) Slot.unset).toArray = ls at hl ⊢
  have hl : lv_has ls 7 [(0, .ref mo), (1, .int i0), (2, .int i1), (3, .int i2)] := hl
  refine lv_aload_n hx hb dX2_inverse_0 rfl (lv_at hl 0 rfl) ?_
  refine lv_iload_n hx hb dX2_inverse_1 rfl (lv_at hl 1 rfl) ?_
  refine lv_iload_n hx hb dX2_inverse_2 rfl (lv_at hl 2 rfl) ?_
  refine lv_iload_n hx hb dX2_inverse_3 rfl (lv_at hl 2 rfl) ?_
  refine lv_iload_n hx hb dX2_inverse_4 rfl (lv_at hl 3 rfl) ?_
  refine ny_i (wc := [(mo, .inr (4, [.int th, .ref m1, .ref m2, .ref m3, .ref m4, .int mn])), (m1, .inl (cI, 12, .inl hf))]) (wr := [(m2, .inl (cZ, 12, .inl bf))]) hP hD hS hA [0, 1] [2] rfl rfl (by decide) (by decide) (va_runV (As := [.int i0, .int i1, .int i1, .int i2]) (rest := []) ⟨hx, hb, hml, hown, hts⟩ (c_X2_isBad_no0 l D cI mo m1 m2 m3 m4 s.heap.size th mn hf i0 i1 i1 i2 (by assumption) (by assumption) (by assumption) (by assumption) (by assumption)) (cwV 4 hts gX2_inverse_X2_isBad rfl rfl rfl (by decide +kernel) ⟨Nat.le_of_ble_eq_true rfl, Nat.le_of_ble_eq_true rfl⟩) ⟨ny_blind, va_recv hK hP (ci := 4) (q0 := 0) rfl rfl, fun U hU hW => ⟨rfl, ny_preU hE hP hK hD hS hA [0, 1] rfl (by decide) rfl [0] rfl U hU hW⟩⟩ rfl rfl hl.1 rfl (lv_room (Nat.le_of_ble_eq_true rfl)) dX2_inverse_5 ⟨Nat.le_of_ble_eq_true rfl, Nat.le_of_ble_eq_true rfl⟩) (fun r_5 u H locs hw_5 hP hD hS => ?_)
  have hP : va_P D vwCl [(m2, .inl (cZ, 12, .inl bf)), (mo, .inr (4, [.int 2, .ref m1, .ref m2, .ref m3, .ref m4, .int mn])), (m1, .inl (cI, 12, .inl hf))] H := hP
  have hD : va_D A [(m2, .inl (cZ, 12, .inl bf)), (mo, .inr (4, [.int 2, .ref m1, .ref m2, .ref m3, .ref m4, .int mn])), (m1, .inl (cI, 12, .inl hf))] := hD
  have hw_5 : r_5 = 1 := hw_5
  subst hw_5
  refine lv_if_eq (tgt := 13) hx hb dX2_inverse_8 (by decide) (fun c_8 => absurd c_8 (show ¬ ((1 : Int32) = 0) by  decide)) (fun c_8 => ?_)
  refine lv_lconst (v := 0) hx hb dX2_inverse_11 (by decide) ?_
  have hP9 := hP.sub (ws' := [(mo, .inr (4, [.int 2, .ref m1, .ref m2, .ref m3, .ref m4, .int mn])), (m1, .inl (cI, 12, .inl hf)), (m2, .inl (cZ, 12, .inl bf))]) [1, 2, 0] rfl
  have hD9 := hD.sub (ws' := [(mo, .inr (4, [.int 2, .ref m1, .ref m2, .ref m3, .ref m4, .int mn])), (m1, .inl (cI, 12, .inl hf)), (m2, .inl (cZ, 12, .inl bf))]) [1, 2, 0] (by decide) rfl
  exact W.lret (v := 0) hx hb hr (fun t ht hW => ⟨⟨0, (), rfl, (rfl), by rw [ht]; exact hP9, va_K.moved hW.alike hK, hD9⟩, hS.F ht⟩) hS.2.2 dX2_inverse_12
set_option maxHeartbeats 4000000 in
set_option maxRecDepth 100000 in
theorem c_X2_inverse_noI (l : Launch) (D : va_G) (cI : ClassId) (cZ : ClassId) (mo : Nat) (m1 : Nat) (m2 : Nat) (m3 : Nat) (m4 : Nat) (sz : Nat) (th : Int32) (mn : Int32) (hf : Nat → Int32) (bf : Nat → Int32) (i0 : Int32) (i1 : Int32) (i2 : Int32) (gp0 : vp_in i0 12) (gp1 : vp_in i1 12) (gp2 : vp_in i2 12) (g0 : ¬ hf i2.toNatClampNeg = 0) (gH : ny_H hf) (gi : f_iv (hf i1.toNatClampNeg) (hf i2.toNatClampNeg) = 128) : Met l yX2_inverse wsX2_inverse ({ frames := 2, cells := 0, slots := 0, locals := 46 }) (va_Pc [.ref mo, .int i0, .int i1, .int i2] (ny_pre D [(cI, .int), (cZ, .boolean)] [(mo, .inr (4, [.int th, .ref m1, .ref m2, .ref m3, .ref m4, .int mn])), (m1, .inl (cI, 12, .inl hf)), (m2, .inl (cZ, 12, .inl bf))] sz)) (va_Ql (fun (r : Int64) (u : Unit) => r = 0) (fun (u : Unit) t => ny_at D [(cI, .int), (cZ, .boolean)] (va_A [(mo, .inr (4, [.int th, .ref m1, .ref m2, .ref m3, .ref m4, .int mn])), (m1, .inl (cI, 12, .inl hf)), (m2, .inl (cZ, 12, .inl bf))] sz) [(mo, .inr (4, [.int 2, .ref m1, .ref m2, .ref m3, .ref m4, .int mn])), (m1, .inl (cI, 12, .inl hf)), (m2, .inl (cZ, 12, .inl bf))] t) (va_A [(mo, .inr (4, [.int th, .ref m1, .ref m2, .ref m3, .ref m4, .int mn])), (m1, .inl (cI, 12, .inl hf)), (m2, .inl (cZ, 12, .inl bf))] sz)) 0 0 (va_A [(mo, .inr (4, [.int th, .ref m1, .ref m2, .ref m3, .ref m4, .int mn])), (m1, .inl (cI, 12, .inl hf)), (m2, .inl (cZ, 12, .inl bf))] sz) := by
  refine Met.ofW (cc := cX2_inverse) (maxL := 7) (ret := (some .long)) (by decide) rfl ?_
  intro p e s m args below meth c s₁ B hml hv
  obtain ⟨rfl, hsz, hP, hK, hD0, hE⟩ := hv
  have hx := B.exec
  have hb := B.bytes
  have hr := B.returns
  have hts := atoms_spec (ws := wsX2_inverse) B.pre
  have hown : s.vm.findClass RX2 = some m.cls := findClass_of_methodNamed B.named
  have hlocks := B.notSynchronized
  subst hsz
  have hD := hD0.self (sz := s.heap.size)
  generalize hAe : va_A [(mo, .inr (4, [.int th, .ref m1, .ref m2, .ref m3, .ref m4, .int mn])), (m1, .inl (cI, 12, .inl hf)), (m2, .inl (cZ, 12, .inl bf))] s.heap.size = A at hD hE ⊢
  have hA : ∀ q : Nat, s.heap.size ≤ q → A q := fun q h => by rw [← hAe]; exact Or.inr h
  have hS : va_S A s.heap s.heap [] := va_S.rf
  have hl := lv_entry ([.ref mo, .int i0, .int i1, .int i2]) (n := 7) (Nat.le_of_ble_eq_true rfl)
  rw [lg_entry_eq]
  generalize (lg_sl ([.ref mo, .int i0, .int i1, .int i2]) ++ List.replicate (7 - (lg_sl ([.ref mo, .int i0, .int i1, .int i2])).length) Slot.unset).toArray = ls at hl ⊢
  have hl : lv_has ls 7 [(0, .ref mo), (1, .int i0), (2, .int i1), (3, .int i2)] := hl
  refine lv_aload_n hx hb dX2_inverse_0 rfl (lv_at hl 0 rfl) ?_
  refine lv_iload_n hx hb dX2_inverse_1 rfl (lv_at hl 1 rfl) ?_
  refine lv_iload_n hx hb dX2_inverse_2 rfl (lv_at hl 2 rfl) ?_
  refine lv_iload_n hx hb dX2_inverse_3 rfl (lv_at hl 2 rfl) ?_
  refine lv_iload_n hx hb dX2_inverse_4 rfl (lv_at hl 3 rfl) ?_
  refine ny_i (wc := [(mo, .inr (4, [.int th, .ref m1, .ref m2, .ref m3, .ref m4, .int mn])), (m1, .inl (cI, 12, .inl hf))]) (wr := [(m2, .inl (cZ, 12, .inl bf))]) hP hD hS hA [0, 1] [2] rfl rfl (by decide) (by decide) (va_runV (As := [.int i0, .int i1, .int i1, .int i2]) (rest := []) ⟨hx, hb, hml, hown, hts⟩ (c_X2_isBad l D cI mo m1 m2 m3 m4 s.heap.size th mn hf i0 i1 i1 i2 (by assumption) (by assumption) (by assumption) (by assumption) (by assumption)) (cwV 4 hts gX2_inverse_X2_isBad rfl rfl rfl (by decide +kernel) ⟨Nat.le_of_ble_eq_true rfl, Nat.le_of_ble_eq_true rfl⟩) ⟨ny_blind, va_recv hK hP (ci := 4) (q0 := 0) rfl rfl, fun U hU hW => ⟨rfl, ny_preU hE hP hK hD hS hA [0, 1] rfl (by decide) rfl [0] rfl U hU hW⟩⟩ rfl rfl hl.1 rfl (lv_room (Nat.le_of_ble_eq_true rfl)) dX2_inverse_5 ⟨Nat.le_of_ble_eq_true rfl, Nat.le_of_ble_eq_true rfl⟩) (fun r_5 u H locs hw_5 hP hD hS => ?_)
  have hP : va_P D vwCl [(m2, .inl (cZ, 12, .inl bf)), (mo, .inr (4, [.int 0, .ref m1, .ref m2, .ref m3, .ref m4, .int mn])), (m1, .inl (cI, 12, .inl hf))] H := hP
  have hD : va_D A [(m2, .inl (cZ, 12, .inl bf)), (mo, .inr (4, [.int 0, .ref m1, .ref m2, .ref m3, .ref m4, .int mn])), (m1, .inl (cI, 12, .inl hf))] := hD
  have hw_5 : r_5 = 0 := hw_5
  subst hw_5
  refine lv_if_eq (tgt := 13) hx hb dX2_inverse_8 (by decide) (fun c_8 => ?_) (fun c_8 => absurd (show (0 : Int32) = 0 by  decide) c_8)
  refine lv_lconst (v := 1) hx hb dX2_inverse_13 (by decide) ?_
  refine lv_aload_n hx hb dX2_inverse_14 rfl (lv_at hl 0 rfl) ?_
  refine va_get (D := D) (ci := 4) (v := .ref m1) (C := RX2) (T := TX2) (N := 6) hx hb hts in_X2_inverse_X2 hown hK hP 1 rfl rfl 1 (by decide) (hts (.fieldLink RX2 7 "NearestclockModel" "eighths" "[I") (List.mem_of_getElem? (i := 1) rfl)) (fun _ h9 => h9) rfl dX2_inverse_15 ?_
  refine lv_iload_n hx hb dX2_inverse_18 rfl (lv_at hl 3 rfl) ?_
  refine va_iald hx hb hK hP 2 0 rfl rfl (by assumption) dX2_inverse_19 ?_
  refine vp_callSi (va_Run.run (va_runS (As := [.long 1, .int (hf i2.toNatClampNeg)]) (rest := []) ⟨hx, hb, hml, hown, hts⟩ (c_X2_residueOf l 1 (hf i2.toNatClampNeg) (gH _ (n_ix gp2)) (by assumption) (by decide)) (va_cwS 2 hts gX2_inverse_X2_residueOf rfl rfl rfl (by decide +kernel) ⟨Nat.le_of_ble_eq_true rfl, Nat.le_of_ble_eq_true rfl⟩) ⟨ny_blindT, fun U hU hW => ⟨rfl, trivial⟩⟩ rfl rfl hl.1 rfl (lv_room (Nat.le_of_ble_eq_true rfl)) dX2_inverse_20 ⟨Nat.le_of_ble_eq_true rfl, Nat.le_of_ble_eq_true rfl⟩)) (fun r_20 hw_20 => ?_)
  have hw_20 : r_20 = f_rs 1 (hf i2.toNatClampNeg) := hw_20
  subst hw_20
  refine ny_ti (x2 := f_rs 1 (hf i2.toNatClampNeg)) (rfl) ?_
  refine lv_istore (lv' := [(4, .int (f_rs 1 (hf i2.toNatClampNeg))), (0, .ref mo), (1, .int i0), (2, .int i1), (3, .int i2)]) hx hb dX2_inverse_23 hl (by decide) rfl (fun ls hl => ?_)
  refine lv_sipush (v := 128) hx hb dX2_inverse_25 (by decide) ?_
  refine ny_ti (x2 := Int32.ofInt (ma_ivF (hf i1.toNatClampNeg).toInt (hf i2.toNatClampNeg).toInt 0)) (rfl) ?_
  refine lv_istore (lv' := [(5, .int (Int32.ofInt (ma_ivF (hf i1.toNatClampNeg).toInt (hf i2.toNatClampNeg).toInt 0))), (4, .int (f_rs 1 (hf i2.toNatClampNeg))), (0, .ref mo), (1, .int i0), (2, .int i1), (3, .int i2)]) hx hb dX2_inverse_28 hl (by decide) rfl (fun ls hl => ?_)
  refine lv_bipush (v := -127) hx hb dX2_inverse_30 (by decide) ?_
  refine ny_ti (x2 := Int32.ofInt (((0 : Nat) : Int) - 127)) (by decide) ?_
  refine lv_istore (lv' := [(6, .int (Int32.ofInt (((0 : Nat) : Int) - 127))), (5, .int (Int32.ofInt (ma_ivF (hf i1.toNatClampNeg).toInt (hf i2.toNatClampNeg).toInt 0))), (4, .int (f_rs 1 (hf i2.toNatClampNeg))), (0, .ref mo), (1, .int i0), (2, .int i1), (3, .int i2)]) hx hb dX2_inverse_32 hl (by decide) rfl (fun ls hl => ?_)
  refine ny_lp 34 7 (fun u : Nat => u ≤ 255) (fun u => 255 - u) (fun u => [(0, .ref mo), (1, .int i0), (2, .int i1), (3, .int i2), (4, .int (f_rs 1 (hf i2.toNatClampNeg))), (5, .int (Int32.ofInt (ma_ivF (hf i1.toNatClampNeg).toInt (hf i2.toNatClampNeg).toInt u))), (6, .int (Int32.ofInt ((u : Int) - 127)))]) (fun u hu ih ls hl => ?_) 0 (show 0 ≤ 255 from Nat.zero_le _) (lv_sub hl [3, 4, 5, 6, 2, 1, 0] rfl)
  obtain ⟨k, rfl⟩ : ∃ z, z = u := ⟨_, rfl⟩
  have hk : k ≤ 255 := hu
  have hl : lv_has ls 7 [(0, .ref mo), (1, .int i0), (2, .int i1), (3, .int i2), (4, .int (f_rs 1 (hf i2.toNatClampNeg))), (5, .int (Int32.ofInt (ma_ivF (hf i1.toNatClampNeg).toInt (hf i2.toNatClampNeg).toInt k))), (6, .int (Int32.ofInt ((k : Int) - 127)))] := hl
  have hkq := n_iv127 hk
  refine lv_iload hx hb dX2_inverse_34 (lv_at hl 6 rfl) ?_
  refine lv_bipush (v := 127) hx hb dX2_inverse_36 (by decide) ?_
  refine lv_icmp_gt (tgt := 98) hx hb dX2_inverse_38 (by decide) (fun c_38 => ?_) (fun c_38 => ?_)
  · have hke := hkq.mp c_38
    subst hke
    have hl : lv_has ls 7 [(0, .ref mo), (1, .int i0), (2, .int i1), (3, .int i2), (4, .int (f_rs 1 (hf i2.toNatClampNeg))), (5, .int (f_iv (hf i1.toNatClampNeg) (hf i2.toNatClampNeg))), (6, .int (Int32.ofInt ((255 : Int) - 127)))] := hl
    refine lv_aload_n hx hb dX2_inverse_98 rfl (lv_at hl 0 rfl) ?_
    refine lv_iload hx hb dX2_inverse_99 (lv_at hl 5 rfl) ?_
    refine lv_bipush (v := 127) hx hb dX2_inverse_101 (by decide) ?_
    refine lv_icmp_le (tgt := 110) hx hb dX2_inverse_103 (by decide) (fun c_103 => absurd c_103 (show ¬ (((f_iv (hf i1.toNatClampNeg) (hf i2.toNatClampNeg)) : Int32) ≤ 127) from fun q => (n_ivLE _ _).mp q gi)) (fun c_103 => ?_)
    refine lv_iconst (v := 1) hx hb dX2_inverse_106 (by decide) ?_
    refine lv_goto (tgt := 111) hx hb dX2_inverse_107 (by decide) ?_
    refine lv_iconst (v := 2) hx hb dX2_inverse_111 (by decide) ?_
    refine ny_i (wc := [(mo, .inr (4, [.int 0, .ref m1, .ref m2, .ref m3, .ref m4, .int mn]))]) (wr := [(m2, .inl (cZ, 12, .inl bf)), (m1, .inl (cI, 12, .inl hf))]) hP hD hS hA [1] [0, 2] rfl rfl (by decide) (by decide) (va_runV (As := [.int 1, .int 2]) (rest := []) ⟨hx, hb, hml, hown, hts⟩ (c_X2_isThrown_1 l D mo m1 m2 m3 m4 H.size 0 mn 2) (cwV 2 hts gX2_inverse_X2_isThrown rfl rfl rfl (by decide +kernel) ⟨Nat.le_of_ble_eq_true rfl, Nat.le_of_ble_eq_true rfl⟩) ⟨ny_blind, va_recv hK hP (ci := 4) (q0 := 1) rfl rfl, fun U hU hW => ⟨rfl, ny_preU hE hP hK hD hS hA [1] rfl (by decide) rfl [] rfl U hU hW⟩⟩ rfl rfl hl.1 rfl (lv_room (Nat.le_of_ble_eq_true rfl)) dX2_inverse_112 ⟨Nat.le_of_ble_eq_true rfl, Nat.le_of_ble_eq_true rfl⟩) (fun r_112 u H locs hw_112 hP hD hS => ?_)
    have hP : va_P D vwCl [(m2, .inl (cZ, 12, .inl bf)), (m1, .inl (cI, 12, .inl hf)), (mo, .inr (4, [.int 2, .ref m1, .ref m2, .ref m3, .ref m4, .int mn]))] H := hP
    have hD : va_D A [(m2, .inl (cZ, 12, .inl bf)), (m1, .inl (cI, 12, .inl hf)), (mo, .inr (4, [.int 2, .ref m1, .ref m2, .ref m3, .ref m4, .int mn]))] := hD
    have hw_112 : r_112 = 1 := hw_112
    subst hw_112
    refine lv_if_eq (tgt := 122) hx hb dX2_inverse_115 (by decide) (fun c_115 => absurd c_115 (show ¬ ((1 : Int32) = 0) by  decide)) (fun c_115 => ?_)
    refine lv_lconst (v := 0) hx hb dX2_inverse_118 (by decide) ?_
    refine lv_goto (tgt := 130) hx hb dX2_inverse_119 (by decide) ?_
    have hP9 := hP.sub (ws' := [(mo, .inr (4, [.int 2, .ref m1, .ref m2, .ref m3, .ref m4, .int mn])), (m1, .inl (cI, 12, .inl hf)), (m2, .inl (cZ, 12, .inl bf))]) [2, 1, 0] rfl
    have hD9 := hD.sub (ws' := [(mo, .inr (4, [.int 2, .ref m1, .ref m2, .ref m3, .ref m4, .int mn])), (m1, .inl (cI, 12, .inl hf)), (m2, .inl (cZ, 12, .inl bf))]) [2, 1, 0] (by decide) rfl
    exact W.lret (v := 0) hx hb hr (fun t ht hW => ⟨⟨0, (), rfl, (rfl), by rw [ht]; exact hP9, va_K.moved hW.alike hK, hD9⟩, hS.F ht⟩) hS.2.2 dX2_inverse_130
  · have hk3 : k < 255 := by have h9 : ¬ k = 255 := fun q => c_38 (hkq.mpr q); omega
    refine lv_iload hx hb dX2_inverse_41 (lv_at hl 6 rfl) ?_
    refine lv_i2l hx hb dX2_inverse_43 rfl ?_
    refine lv_aload_n hx hb dX2_inverse_44 rfl (lv_at hl 0 rfl) ?_
    refine va_get (D := D) (ci := 4) (v := .ref m1) (C := RX2) (T := TX2) (N := 6) hx hb hts in_X2_inverse_X2 hown hK hP 1 rfl rfl 1 (by decide) (hts (.fieldLink RX2 7 "NearestclockModel" "eighths" "[I") (List.mem_of_getElem? (i := 1) rfl)) (fun _ h9 => h9) rfl dX2_inverse_45 ?_
    refine lv_iload_n hx hb dX2_inverse_48 rfl (lv_at hl 3 rfl) ?_
    refine va_iald hx hb hK hP 2 0 rfl rfl (by assumption) dX2_inverse_49 ?_
    refine vp_callSi (va_Run.run (va_runS (As := [.long ((Int32.ofInt ((k : Int) - 127)).toInt64), .int (hf i2.toNatClampNeg)]) (rest := []) ⟨hx, hb, hml, hown, hts⟩ (c_X2_residueOf l ((Int32.ofInt ((k : Int) - 127)).toInt64) (hf i2.toNatClampNeg) (gH _ (n_ix gp2)) (by assumption) (n_lb _)) (va_cwS 2 hts gX2_inverse_X2_residueOf rfl rfl rfl (by decide +kernel) ⟨Nat.le_of_ble_eq_true rfl, Nat.le_of_ble_eq_true rfl⟩) ⟨ny_blindT, fun U hU hW => ⟨rfl, trivial⟩⟩ rfl rfl hl.1 rfl (lv_room (Nat.le_of_ble_eq_true rfl)) dX2_inverse_50 ⟨Nat.le_of_ble_eq_true rfl, Nat.le_of_ble_eq_true rfl⟩)) (fun r_50 hw_50 => ?_)
    have hw_50 : r_50 = f_rs ((Int32.ofInt ((k : Int) - 127)).toInt64) (hf i2.toNatClampNeg) := hw_50
    subst hw_50
    refine lv_iload hx hb dX2_inverse_53 (lv_at hl 6 rfl) ?_
    refine lv_icmp_ne (tgt := 88) hx hb dX2_inverse_55 (by decide) (fun c_55 => ?_) (fun c_55 => ?_)
    · refine lv_iload hx hb dX2_inverse_88 (lv_at hl 5 rfl) ?_
      refine ny_ti (x2 := Int32.ofInt (ma_ivF (hf i1.toNatClampNeg).toInt (hf i2.toNatClampNeg).toInt (k + 1))) (n_ivU2 (fun q => c_55 ((n_ivS (gH _ (n_ix gp2)) g0 (gH _ (n_ix gp1)) hk3).1.mpr q.1))) ?_
      refine lv_istore (lv' := [(5, .int (Int32.ofInt (ma_ivF (hf i1.toNatClampNeg).toInt (hf i2.toNatClampNeg).toInt (k + 1)))), (0, .ref mo), (1, .int i0), (2, .int i1), (3, .int i2), (4, .int (f_rs 1 (hf i2.toNatClampNeg))), (6, .int (Int32.ofInt ((k : Int) - 127)))]) hx hb dX2_inverse_90 hl (by decide) rfl (fun ls hl => ?_)
      refine lv_iinc (v := Int32.ofInt (((k + 1 : Nat) : Int) - 127)) (lv' := [(6, .int (Int32.ofInt (((k + 1 : Nat) : Int) - 127))), (5, .int (Int32.ofInt (ma_ivF (hf i1.toNatClampNeg).toInt (hf i2.toNatClampNeg).toInt (k + 1)))), (0, .ref mo), (1, .int i0), (2, .int i1), (3, .int i2), (4, .int (f_rs 1 (hf i2.toNatClampNeg)))]) hx hb dX2_inverse_92 hl (k := 6) rfl (n_ivI k) (by decide) rfl (fun ls hl => ?_)
      refine lv_goto (tgt := 34) hx hb dX2_inverse_95 (by decide) ?_
      exact ih (k + 1) (show (k + 1) ≤ 255 from by omega) (show 255 - (k + 1) < 255 - k by omega) _ (lv_sub hl [2, 3, 4, 5, 6, 1, 0] rfl)
    · refine lv_aload_n hx hb dX2_inverse_58 rfl (lv_at hl 0 rfl) ?_
      refine va_get (D := D) (ci := 4) (v := .ref m1) (C := RX2) (T := TX2) (N := 6) hx hb hts in_X2_inverse_X2 hown hK hP 1 rfl rfl 1 (by decide) (hts (.fieldLink RX2 7 "NearestclockModel" "eighths" "[I") (List.mem_of_getElem? (i := 1) rfl)) (fun _ h9 => h9) rfl dX2_inverse_59 ?_
      refine lv_iload_n hx hb dX2_inverse_62 rfl (lv_at hl 2 rfl) ?_
      refine va_iald hx hb hK hP 2 0 rfl rfl (by assumption) dX2_inverse_63 ?_
      refine lv_i2l hx hb dX2_inverse_64 rfl ?_
      refine lv_iload hx hb dX2_inverse_65 (lv_at hl 6 rfl) ?_
      refine lv_i2l hx hb dX2_inverse_67 rfl ?_
      refine lv_lmul hx hb dX2_inverse_68 ?_
      refine lv_aload_n hx hb dX2_inverse_69 rfl (lv_at hl 0 rfl) ?_
      refine va_get (D := D) (ci := 4) (v := .ref m1) (C := RX2) (T := TX2) (N := 6) hx hb hts in_X2_inverse_X2 hown hK hP 1 rfl rfl 1 (by decide) (hts (.fieldLink RX2 7 "NearestclockModel" "eighths" "[I") (List.mem_of_getElem? (i := 1) rfl)) (fun _ h9 => h9) rfl dX2_inverse_70 ?_
      refine lv_iload_n hx hb dX2_inverse_73 rfl (lv_at hl 3 rfl) ?_
      refine va_iald hx hb hK hP 2 0 rfl rfl (by assumption) dX2_inverse_74 ?_
      refine vp_callSi (va_Run.run (va_runS (As := [.long (((hf i1.toNatClampNeg).toInt64) * ((Int32.ofInt ((k : Int) - 127)).toInt64)), .int (hf i2.toNatClampNeg)]) (rest := []) ⟨hx, hb, hml, hown, hts⟩ (c_X2_residueOf l (((hf i1.toNatClampNeg).toInt64) * ((Int32.ofInt ((k : Int) - 127)).toInt64)) (hf i2.toNatClampNeg) (gH _ (n_ix gp2)) (by assumption) (n_ivB (gH _ (n_ix gp1)) hk3)) (va_cwS 2 hts gX2_inverse_X2_residueOf rfl rfl rfl (by decide +kernel) ⟨Nat.le_of_ble_eq_true rfl, Nat.le_of_ble_eq_true rfl⟩) ⟨ny_blindT, fun U hU hW => ⟨rfl, trivial⟩⟩ rfl rfl hl.1 rfl (lv_room (Nat.le_of_ble_eq_true rfl)) dX2_inverse_75 ⟨Nat.le_of_ble_eq_true rfl, Nat.le_of_ble_eq_true rfl⟩)) (fun r_75 hw_75 => ?_)
      have hw_75 : r_75 = f_rs (((hf i1.toNatClampNeg).toInt64) * ((Int32.ofInt ((k : Int) - 127)).toInt64)) (hf i2.toNatClampNeg) := hw_75
      subst hw_75
      refine lv_iload hx hb dX2_inverse_78 (lv_at hl 4 rfl) ?_
      refine lv_icmp_ne (tgt := 88) hx hb dX2_inverse_80 (by decide) (fun c_80 => ?_) (fun c_80 => ?_)
      · refine lv_iload hx hb dX2_inverse_88 (lv_at hl 5 rfl) ?_
        refine ny_ti (x2 := Int32.ofInt (ma_ivF (hf i1.toNatClampNeg).toInt (hf i2.toNatClampNeg).toInt (k + 1))) (n_ivU2 (fun q => c_80 ((n_ivS (gH _ (n_ix gp2)) g0 (gH _ (n_ix gp1)) hk3).2.mpr q.2))) ?_
        refine lv_istore (lv' := [(5, .int (Int32.ofInt (ma_ivF (hf i1.toNatClampNeg).toInt (hf i2.toNatClampNeg).toInt (k + 1)))), (0, .ref mo), (1, .int i0), (2, .int i1), (3, .int i2), (4, .int (f_rs 1 (hf i2.toNatClampNeg))), (6, .int (Int32.ofInt ((k : Int) - 127)))]) hx hb dX2_inverse_90 hl (by decide) rfl (fun ls hl => ?_)
        refine lv_iinc (v := Int32.ofInt (((k + 1 : Nat) : Int) - 127)) (lv' := [(6, .int (Int32.ofInt (((k + 1 : Nat) : Int) - 127))), (5, .int (Int32.ofInt (ma_ivF (hf i1.toNatClampNeg).toInt (hf i2.toNatClampNeg).toInt (k + 1)))), (0, .ref mo), (1, .int i0), (2, .int i1), (3, .int i2), (4, .int (f_rs 1 (hf i2.toNatClampNeg)))]) hx hb dX2_inverse_92 hl (k := 6) rfl (n_ivI k) (by decide) rfl (fun ls hl => ?_)
        refine lv_goto (tgt := 34) hx hb dX2_inverse_95 (by decide) ?_
        exact ih (k + 1) (show (k + 1) ≤ 255 from by omega) (show 255 - (k + 1) < 255 - k by omega) _ (lv_sub hl [2, 3, 4, 5, 6, 1, 0] rfl)
      · refine lv_iload hx hb dX2_inverse_83 (lv_at hl 6 rfl) ?_
        refine lv_goto (tgt := 90) hx hb dX2_inverse_85 (by decide) ?_
        refine ny_ti (x2 := Int32.ofInt (ma_ivF (hf i1.toNatClampNeg).toInt (hf i2.toNatClampNeg).toInt (k + 1))) (n_ivU1 ((n_ivS (gH _ (n_ix gp2)) g0 (gH _ (n_ix gp1)) hk3).1.mp c_55) ((n_ivS (gH _ (n_ix gp2)) g0 (gH _ (n_ix gp1)) hk3).2.mp c_80)) ?_
        refine lv_istore (lv' := [(5, .int (Int32.ofInt (ma_ivF (hf i1.toNatClampNeg).toInt (hf i2.toNatClampNeg).toInt (k + 1)))), (0, .ref mo), (1, .int i0), (2, .int i1), (3, .int i2), (4, .int (f_rs 1 (hf i2.toNatClampNeg))), (6, .int (Int32.ofInt ((k : Int) - 127)))]) hx hb dX2_inverse_90 hl (by decide) rfl (fun ls hl => ?_)
        refine lv_iinc (v := Int32.ofInt (((k + 1 : Nat) : Int) - 127)) (lv' := [(6, .int (Int32.ofInt (((k + 1 : Nat) : Int) - 127))), (5, .int (Int32.ofInt (ma_ivF (hf i1.toNatClampNeg).toInt (hf i2.toNatClampNeg).toInt (k + 1)))), (0, .ref mo), (1, .int i0), (2, .int i1), (3, .int i2), (4, .int (f_rs 1 (hf i2.toNatClampNeg)))]) hx hb dX2_inverse_92 hl (k := 6) rfl (n_ivI k) (by decide) rfl (fun ls hl => ?_)
        refine lv_goto (tgt := 34) hx hb dX2_inverse_95 (by decide) ?_
        exact ih (k + 1) (show (k + 1) ≤ 255 from by omega) (show 255 - (k + 1) < 255 - k by omega) _ (lv_sub hl [2, 3, 4, 5, 6, 1, 0] rfl)
theorem in_X2_takes_X2 : ∀ w ∈ wsX20, w ∈ wsX2_takes := (fun _ h => List.mem_cons_of_mem _ (List.mem_append_left _ (List.mem_append_right _ h)))
set_option maxHeartbeats 4000000 in
set_option maxRecDepth 100000 in
theorem c_X2_takes (l : Launch) (D : va_G) (cI : ClassId) (mo : Nat) (m1 : Nat) (m2 : Nat) (m3 : Nat) (m4 : Nat) (sz : Nat) (th : Int32) (mn : Int32) (mt : Nat → Int32) (i0 : Int32) (i1 : Int32) (gx : ny_R i0) (gy : ny_R i1) : Met l yX2_takes wsX2_takes ({ frames := 2, cells := 0, slots := 0, locals := 45 }) (va_Pc [.ref mo, .int i0, .int i1] (ny_pre D [(cI, .int)] [(mo, .inr (4, [.int th, .ref m1, .ref m2, .ref m3, .ref m4, .int mn])), (m4, .inl (cI, 16, .inl mt))] sz)) (va_Qi (fun (r : Int32) (u : Unit) => r = nI (f_ln i0 i1)) (fun (u : Unit) t => ny_at D [(cI, .int)] (va_A [(mo, .inr (4, [.int th, .ref m1, .ref m2, .ref m3, .ref m4, .int mn])), (m4, .inl (cI, 16, .inl mt))] sz) [(mo, .inr (4, [.int th, .ref m1, .ref m2, .ref m3, .ref m4, .int mn])), (m4, .inl (cI, 16, .inl (f_row mt i0 i1 (f_ln i0 i1))))] t) (va_A [(mo, .inr (4, [.int th, .ref m1, .ref m2, .ref m3, .ref m4, .int mn])), (m4, .inl (cI, 16, .inl mt))] sz)) 0 0 (va_A [(mo, .inr (4, [.int th, .ref m1, .ref m2, .ref m3, .ref m4, .int mn])), (m4, .inl (cI, 16, .inl mt))] sz) := by
  refine Met.ofW (cc := cX2_takes) (maxL := 7) (ret := (some .int)) (by decide) rfl ?_
  intro p e s m args below meth c s₁ B hml hv
  obtain ⟨rfl, hsz, hP, hK, hD0, hE⟩ := hv
  have hx := B.exec
  have hb := B.bytes
  have hr := B.returns
  have hts := atoms_spec (ws := wsX2_takes) B.pre
  have hown : s.vm.findClass RX2 = some m.cls := findClass_of_methodNamed B.named
  have hlocks := B.notSynchronized
  subst hsz
  have hD := hD0.self (sz := s.heap.size)
  generalize hAe : va_A [(mo, .inr (4, [.int th, .ref m1, .ref m2, .ref m3, .ref m4, .int mn])), (m4, .inl (cI, 16, .inl mt))] s.heap.size = A at hD hE ⊢
  have hA : ∀ q : Nat, s.heap.size ≤ q → A q := fun q h => by rw [← hAe]; exact Or.inr h
  have hS : va_S A s.heap s.heap [] := va_S.rf
  have hl := lv_entry ([.ref mo, .int i0, .int i1]) (n := 7) (Nat.le_of_ble_eq_true rfl)
  rw [lg_entry_eq]
  generalize (lg_sl ([.ref mo, .int i0, .int i1]) ++ List.replicate (7 - (lg_sl ([.ref mo, .int i0, .int i1])).length) Slot.unset).toArray = ls at hl ⊢
  have hl : lv_has ls 7 [(0, .ref mo), (1, .int i0), (2, .int i1)] := hl
  refine lv_iconst (v := 0) hx hb dX2_takes_0 (by decide) ?_
  refine ny_ti (x2 := nI 0) (rfl) ?_
  refine lv_istore_n (lv' := [(3, .int (nI 0)), (0, .ref mo), (1, .int i0), (2, .int i1)]) hx hb dX2_takes_1 rfl hl (by decide) rfl (fun ls hl => ?_)
  refine lv_iload_n hx hb dX2_takes_2 rfl (lv_at hl 2 rfl) ?_
  refine ny_ti (x2 := Int32.ofInt (ma_eu i0.toInt i1.toInt 0).1) ((fb_asI i0).symm) ?_
  refine lv_istore (lv' := [(4, .int (Int32.ofInt (ma_eu i0.toInt i1.toInt 0).1)), (3, .int (nI 0)), (0, .ref mo), (1, .int i0), (2, .int i1)]) hx hb dX2_takes_3 hl (by decide) rfl (fun ls hl => ?_)
  refine lv_iload_n hx hb dX2_takes_5 rfl (lv_at hl 4 rfl) ?_
  refine ny_ti (x2 := Int32.ofInt (ma_eu i0.toInt i1.toInt 0).2) ((fb_asI i1).symm) ?_
  refine lv_istore (lv' := [(5, .int (Int32.ofInt (ma_eu i0.toInt i1.toInt 0).2)), (4, .int (Int32.ofInt (ma_eu i0.toInt i1.toInt 0).1)), (3, .int (nI 0)), (0, .ref mo), (1, .int i0), (2, .int i1)]) hx hb dX2_takes_6 hl (by decide) rfl (fun ls hl => ?_)
  have hP : va_P D vwCl [(mo, .inr (4, [.int th, .ref m1, .ref m2, .ref m3, .ref m4, .int mn])), (m4, .inl (cI, 16, .inl (f_row mt i0 i1 0)))] s.heap := by rw [f_row0]; exact hP
  have hD : va_D A [(mo, .inr (4, [.int th, .ref m1, .ref m2, .ref m3, .ref m4, .int mn])), (m4, .inl (cI, 16, .inl (f_row mt i0 i1 0)))] := by rw [f_row0]; exact hD
  refine ny_lw 8 7 (fun u : Nat => (∀ j, j < u → (ma_eu i0.toInt i1.toInt j).2 ≠ 0)) (fun u => 8 - u) (fun u => [(0, .ref mo), (1, .int i0), (2, .int i1), (3, .int (nI u)), (4, .int (Int32.ofInt (ma_eu i0.toInt i1.toInt u).1)), (5, .int (Int32.ofInt (ma_eu i0.toInt i1.toInt u).2))]) (fun u => [(mo, .inr (4, [.int th, .ref m1, .ref m2, .ref m3, .ref m4, .int mn])), (m4, .inl (cI, 16, .inl (f_row mt i0 i1 u)))]) (fun u hu ih ls H locs hl hP hD hS => ?_) 0 (show (∀ j, j < 0 → (ma_eu i0.toInt i1.toInt j).2 ≠ 0) from fun j hj => absurd hj (Nat.not_lt_zero j)) (lv_sub hl [3, 4, 5, 2, 1, 0] rfl) (hP.sub (ws' := [(mo, .inr (4, [.int th, .ref m1, .ref m2, .ref m3, .ref m4, .int mn])), (m4, .inl (cI, 16, .inl (f_row mt i0 i1 0)))]) [0, 1] rfl) (hD.sub (ws' := [(mo, .inr (4, [.int th, .ref m1, .ref m2, .ref m3, .ref m4, .int mn])), (m4, .inl (cI, 16, .inl (f_row mt i0 i1 0)))]) [0, 1] (by decide) rfl) hS
  obtain ⟨k, rfl⟩ : ∃ z, z = u := ⟨_, rfl⟩
  have hj : (∀ j, j < k → (ma_eu i0.toInt i1.toInt j).2 ≠ 0) := hu
  have hl : lv_has ls 7 [(0, .ref mo), (1, .int i0), (2, .int i1), (3, .int (nI k)), (4, .int (Int32.ofInt (ma_eu i0.toInt i1.toInt k).1)), (5, .int (Int32.ofInt (ma_eu i0.toInt i1.toInt k).2))] := hl
  have hP : va_P D vwCl [(mo, .inr (4, [.int th, .ref m1, .ref m2, .ref m3, .ref m4, .int mn])), (m4, .inl (cI, 16, .inl (f_row mt i0 i1 k)))] H := hP
  have hD : va_D A [(mo, .inr (4, [.int th, .ref m1, .ref m2, .ref m3, .ref m4, .int mn])), (m4, .inl (cI, 16, .inl (f_row mt i0 i1 k)))] := hD
  have hk := n_tkL (n_R127 gy) hj
  obtain ⟨hr1, hr2⟩ := n_euR (n_R127 gx) (n_R127 gy) k hj
  refine lv_iload hx hb dX2_takes_8 (lv_at hl 5 rfl) ?_
  refine lv_if_eq (tgt := 54) hx hb dX2_takes_10 (by decide) (fun c_10 => ?_) (fun c_10 => ?_)
  · have hke : k = f_ln i0 i1 := ma_ln_end (n_R127 gy) hj (Or.inl ((n_eu0 hr2).mp c_10))
    subst hke
    refine lv_iload_n hx hb dX2_takes_54 rfl (lv_at hl 3 rfl) ?_
    have hP9 := hP.sub (ws' := [(mo, .inr (4, [.int th, .ref m1, .ref m2, .ref m3, .ref m4, .int mn])), (m4, .inl (cI, 16, .inl (f_row mt i0 i1 (f_ln i0 i1))))]) [0, 1] rfl
    have hD9 := hD.sub (ws' := [(mo, .inr (4, [.int th, .ref m1, .ref m2, .ref m3, .ref m4, .int mn])), (m4, .inl (cI, 16, .inl (f_row mt i0 i1 (f_ln i0 i1))))]) [0, 1] (by decide) rfl
    exact W.iret (v := nI (f_ln i0 i1)) hx hb hr (fun t ht hW => ⟨⟨nI (f_ln i0 i1), (), rfl, (rfl), by rw [ht]; exact hP9, va_K.moved hW.alike hK, hD9⟩, hS.F ht⟩) hS.2.2 dX2_takes_55
  · refine lv_aload_n hx hb dX2_takes_13 rfl (lv_at hl 0 rfl) ?_
    refine va_get (D := D) (ci := 4) (v := .ref m4) (C := RX2) (T := TX2) (N := 6) hx hb hts in_X2_takes_X2 hown hK hP 0 rfl rfl 4 (by decide) (hts (.fieldLink RX2 20 "NearestclockModel" "taken" "[I") (List.mem_of_getElem? (i := 1) rfl)) (fun _ h9 => h9) rfl dX2_takes_14 ?_
    refine lv_iload_n hx hb dX2_takes_17 rfl (lv_at hl 3 rfl) ?_
    refine lv_iload hx hb dX2_takes_18 (lv_at hl 4 rfl) ?_
    refine lv_iload hx hb dX2_takes_20 (lv_at hl 5 rfl) ?_
    refine vp_callSi (va_Run.run (va_runS (As := [.int (Int32.ofInt (ma_eu i0.toInt i1.toInt k).1), .int (Int32.ofInt (ma_eu i0.toInt i1.toInt k).2)]) (rest := [.int (nI k), .ref m4]) ⟨hx, hb, hml, hown, hts⟩ (c_X2_nearest l (Int32.ofInt (ma_eu i0.toInt i1.toInt k).1) (Int32.ofInt (ma_eu i0.toInt i1.toInt k).2) (n_Rof hr1) (n_Rof hr2) (by assumption)) (va_cwS 2 hts gX2_takes_X2_nearest rfl rfl rfl (by decide +kernel) ⟨Nat.le_of_ble_eq_true rfl, Nat.le_of_ble_eq_true rfl⟩) ⟨ny_blindT, fun U hU hW => ⟨rfl, trivial⟩⟩ rfl rfl hl.1 rfl (lv_room (Nat.le_of_ble_eq_true rfl)) dX2_takes_22 ⟨Nat.le_of_ble_eq_true rfl, Nat.le_of_ble_eq_true rfl⟩)) (fun r_22 hw_22 => ?_)
    have hw_22 : r_22 = f_nr (Int32.ofInt (ma_eu i0.toInt i1.toInt k).1) (Int32.ofInt (ma_eu i0.toInt i1.toInt k).2) := hw_22
    subst hw_22
    refine ny_ti (x2 := f_dg i0 i1 k) (n_dgI ⟨hr1, hr2⟩) ?_
    refine va_iast hx hb hK hP hD hS 1 0 rfl rfl (vp_in_nI (by omega) (by decide)) dX2_takes_25 (fun H locs hP hD hS => ?_)
    have hP : va_P D vwCl [(mo, .inr (4, [.int th, .ref m1, .ref m2, .ref m3, .ref m4, .int mn])), (m4, .inl (cI, 16, .inl (upd (f_row mt i0 i1 k) (nI k).toNatClampNeg (f_dg i0 i1 k))))] H := hP
    have hD : va_D A [(mo, .inr (4, [.int th, .ref m1, .ref m2, .ref m3, .ref m4, .int mn])), (m4, .inl (cI, 16, .inl (upd (f_row mt i0 i1 k) (nI k).toNatClampNeg (f_dg i0 i1 k))))] := hD
    refine lv_iload hx hb dX2_takes_26 (lv_at hl 4 rfl) ?_
    refine lv_aload_n hx hb dX2_takes_28 rfl (lv_at hl 0 rfl) ?_
    refine va_get (D := D) (ci := 4) (v := .ref m4) (C := RX2) (T := TX2) (N := 6) hx hb hts in_X2_takes_X2 hown hK hP 0 rfl rfl 4 (by decide) (hts (.fieldLink RX2 20 "NearestclockModel" "taken" "[I") (List.mem_of_getElem? (i := 1) rfl)) (fun _ h9 => h9) rfl dX2_takes_29 ?_
    refine lv_iload_n hx hb dX2_takes_32 rfl (lv_at hl 3 rfl) ?_
    refine va_iald hx hb hK hP 1 0 rfl rfl (vp_in_nI (by omega) (by decide)) dX2_takes_33 ?_
    refine ny_ti (x2 := f_dg i0 i1 k) (pk_us) ?_
    refine lv_iload hx hb dX2_takes_34 (lv_at hl 5 rfl) ?_
    refine lv_imul hx hb dX2_takes_36 ?_
    refine lv_isub hx hb dX2_takes_37 ?_
    refine ny_ti (x2 := Int32.ofInt (ma_eu i0.toInt i1.toInt (k + 1)).2) (n_euI i0 i1 k) ?_
    refine lv_istore (lv' := [(6, .int (Int32.ofInt (ma_eu i0.toInt i1.toInt (k + 1)).2)), (0, .ref mo), (1, .int i0), (2, .int i1), (3, .int (nI k)), (4, .int (Int32.ofInt (ma_eu i0.toInt i1.toInt k).1)), (5, .int (Int32.ofInt (ma_eu i0.toInt i1.toInt k).2))]) hx hb dX2_takes_38 hl (by decide) rfl (fun ls hl => ?_)
    refine lv_iinc (v := nI (k + 1)) (lv' := [(3, .int (nI (k + 1))), (6, .int (Int32.ofInt (ma_eu i0.toInt i1.toInt (k + 1)).2)), (0, .ref mo), (1, .int i0), (2, .int i1), (4, .int (Int32.ofInt (ma_eu i0.toInt i1.toInt k).1)), (5, .int (Int32.ofInt (ma_eu i0.toInt i1.toInt k).2))]) hx hb dX2_takes_40 hl (k := 4) rfl (n_incN k) (by decide) rfl (fun ls hl => ?_)
    refine lv_iload hx hb dX2_takes_43 (lv_at hl 6 rfl) ?_
    refine ny_ti (x2 := Int32.ofInt (ma_eu i0.toInt i1.toInt (k + 1)).1) (rfl) ?_
    refine lv_istore (lv' := [(4, .int (Int32.ofInt (ma_eu i0.toInt i1.toInt (k + 1)).1)), (3, .int (nI (k + 1))), (6, .int (Int32.ofInt (ma_eu i0.toInt i1.toInt (k + 1)).2)), (0, .ref mo), (1, .int i0), (2, .int i1), (5, .int (Int32.ofInt (ma_eu i0.toInt i1.toInt k).2))]) hx hb dX2_takes_45 hl (by decide) rfl (fun ls hl => ?_)
    refine lv_iload hx hb dX2_takes_47 (lv_at hl 2 rfl) ?_
    refine lv_istore (lv' := [(5, .int (Int32.ofInt (ma_eu i0.toInt i1.toInt (k + 1)).2)), (4, .int (Int32.ofInt (ma_eu i0.toInt i1.toInt (k + 1)).1)), (3, .int (nI (k + 1))), (6, .int (Int32.ofInt (ma_eu i0.toInt i1.toInt (k + 1)).2)), (0, .ref mo), (1, .int i0), (2, .int i1)]) hx hb dX2_takes_49 hl (by decide) rfl (fun ls hl => ?_)
    refine lv_goto (tgt := 8) hx hb dX2_takes_51 (by decide) ?_
    rw [f_rowSI mt i0 i1 (show k < 2 ^ 31 by omega)] at hP hD
    exact ih (k + 1) (show (∀ j, j < (k + 1) → (ma_eu i0.toInt i1.toInt j).2 ≠ 0) from n_hjS hj (fun q => c_10 ((n_eu0 hr2).mpr q))) (show 8 - (k + 1) < 8 - k by omega) _ _ _ (lv_sub hl [4, 5, 6, 2, 1, 0] rfl) (hP.sub (ws' := [(mo, .inr (4, [.int th, .ref m1, .ref m2, .ref m3, .ref m4, .int mn])), (m4, .inl (cI, 16, .inl (f_row mt i0 i1 (k + 1))))]) [0, 1] rfl) (hD.sub (ws' := [(mo, .inr (4, [.int th, .ref m1, .ref m2, .ref m3, .ref m4, .int mn])), (m4, .inl (cI, 16, .inl (f_row mt i0 i1 (k + 1))))]) [0, 1] (by decide) rfl) hS
theorem in_X2_steps_X2 : ∀ w ∈ wsX20, w ∈ wsX2_steps := (fun _ h => List.mem_cons_of_mem _ (List.mem_append_left _ (List.mem_append_right _ h)))
set_option maxHeartbeats 4000000 in
set_option maxRecDepth 100000 in
theorem c_X2_steps (l : Launch) (D : va_G) (cI : ClassId) (mo : Nat) (m1 : Nat) (m2 : Nat) (m3 : Nat) (m4 : Nat) (sz : Nat) (th : Int32) (mn : Int32) (hf : Nat → Int32) (mt : Nat → Int32) (i0 : Int32) (i1 : Int32) (gp0 : vp_in i0 12) (gp1 : vp_in i1 12) (gH : ny_H hf) : Met l yX2_steps wsX2_steps ({ frames := 3, cells := 0, slots := 0, locals := 71 }) (va_Pc [.ref mo, .int i0, .int i1] (ny_pre D [(cI, .int)] [(mo, .inr (4, [.int th, .ref m1, .ref m2, .ref m3, .ref m4, .int mn])), (m1, .inl (cI, 12, .inl hf)), (m4, .inl (cI, 16, .inl mt))] sz)) (va_Qi (fun (r : Int32) (u : Unit) => r = nI (f_ln (hf i0.toNatClampNeg) (hf i1.toNatClampNeg))) (fun (u : Unit) t => ny_at D [(cI, .int)] (va_A [(mo, .inr (4, [.int th, .ref m1, .ref m2, .ref m3, .ref m4, .int mn])), (m1, .inl (cI, 12, .inl hf)), (m4, .inl (cI, 16, .inl mt))] sz) [(mo, .inr (4, [.int 0, .ref m1, .ref m2, .ref m3, .ref m4, .int mn])), (m1, .inl (cI, 12, .inl hf)), (m4, .inl (cI, 16, .inl (f_row mt (hf i0.toNatClampNeg) (hf i1.toNatClampNeg) (f_ln (hf i0.toNatClampNeg) (hf i1.toNatClampNeg)))))] t) (va_A [(mo, .inr (4, [.int th, .ref m1, .ref m2, .ref m3, .ref m4, .int mn])), (m1, .inl (cI, 12, .inl hf)), (m4, .inl (cI, 16, .inl mt))] sz)) 0 0 (va_A [(mo, .inr (4, [.int th, .ref m1, .ref m2, .ref m3, .ref m4, .int mn])), (m1, .inl (cI, 12, .inl hf)), (m4, .inl (cI, 16, .inl mt))] sz) := by
  refine Met.ofW (cc := cX2_steps) (maxL := 3) (ret := (some .int)) (by decide) rfl ?_
  intro p e s m args below meth c s₁ B hml hv
  obtain ⟨rfl, hsz, hP, hK, hD0, hE⟩ := hv
  have hx := B.exec
  have hb := B.bytes
  have hr := B.returns
  have hts := atoms_spec (ws := wsX2_steps) B.pre
  have hown : s.vm.findClass RX2 = some m.cls := findClass_of_methodNamed B.named
  have hlocks := B.notSynchronized
  subst hsz
  have hD := hD0.self (sz := s.heap.size)
  generalize hAe : va_A [(mo, .inr (4, [.int th, .ref m1, .ref m2, .ref m3, .ref m4, .int mn])), (m1, .inl (cI, 12, .inl hf)), (m4, .inl (cI, 16, .inl mt))] s.heap.size = A at hD hE ⊢
  have hA : ∀ q : Nat, s.heap.size ≤ q → A q := fun q h => by rw [← hAe]; exact Or.inr h
  have hS : va_S A s.heap s.heap [] := va_S.rf
  have hl := lv_entry ([.ref mo, .int i0, .int i1]) (n := 3) (Nat.le_of_ble_eq_true rfl)
  rw [lg_entry_eq]
  generalize (lg_sl ([.ref mo, .int i0, .int i1]) ++ List.replicate (3 - (lg_sl ([.ref mo, .int i0, .int i1])).length) Slot.unset).toArray = ls at hl ⊢
  have hl : lv_has ls 3 [(0, .ref mo), (1, .int i0), (2, .int i1)] := hl
  refine lv_aload_n hx hb dX2_steps_0 rfl (lv_at hl 0 rfl) ?_
  refine lv_iload_n hx hb dX2_steps_1 rfl (lv_at hl 1 rfl) ?_
  refine vp_callSi (va_Run.run (va_runS (As := [.int i0]) (rest := [.ref mo]) ⟨hx, hb, hml, hown, hts⟩ (c_X2_isPlace l i0 (by assumption)) (va_cwS 1 hts gX2_steps_X2_isPlace rfl rfl rfl (by decide +kernel) ⟨Nat.le_of_ble_eq_true rfl, Nat.le_of_ble_eq_true rfl⟩) ⟨ny_blindT, fun U hU hW => ⟨rfl, trivial⟩⟩ rfl rfl hl.1 rfl (lv_room (Nat.le_of_ble_eq_true rfl)) dX2_steps_2 ⟨Nat.le_of_ble_eq_true rfl, Nat.le_of_ble_eq_true rfl⟩)) (fun r_2 hw_2 => ?_)
  have hw_2 : r_2 = 1 := hw_2
  subst hw_2
  refine lv_if_eq (tgt := 15) hx hb dX2_steps_5 (by decide) (fun c_5 => absurd c_5 (show ¬ ((1 : Int32) = 0) by  decide)) (fun c_5 => ?_)
  refine lv_iload_n hx hb dX2_steps_8 rfl (lv_at hl 2 rfl) ?_
  refine vp_callSi (va_Run.run (va_runS (As := [.int i1]) (rest := [.ref mo]) ⟨hx, hb, hml, hown, hts⟩ (c_X2_isPlace l i1 (by assumption)) (va_cwS 1 hts gX2_steps_X2_isPlace rfl rfl rfl (by decide +kernel) ⟨Nat.le_of_ble_eq_true rfl, Nat.le_of_ble_eq_true rfl⟩) ⟨ny_blindT, fun U hU hW => ⟨rfl, trivial⟩⟩ rfl rfl hl.1 rfl (lv_room (Nat.le_of_ble_eq_true rfl)) dX2_steps_9 ⟨Nat.le_of_ble_eq_true rfl, Nat.le_of_ble_eq_true rfl⟩)) (fun r_9 hw_9 => ?_)
  have hw_9 : r_9 = 1 := hw_9
  subst hw_9
  refine lv_if_ne (tgt := 19) hx hb dX2_steps_12 (by decide) (fun c_12 => ?_) (fun c_12 => absurd c_12 (show ¬ ((1 : Int32) = 0) by  decide))
  refine lv_iconst (v := 0) hx hb dX2_steps_19 (by decide) ?_
  refine lv_iconst (v := 1) hx hb dX2_steps_20 (by decide) ?_
  refine ny_i (wc := [(mo, .inr (4, [.int th, .ref m1, .ref m2, .ref m3, .ref m4, .int mn]))]) (wr := [(m1, .inl (cI, 12, .inl hf)), (m4, .inl (cI, 16, .inl mt))]) hP hD hS hA [0] [1, 2] rfl rfl (by decide) (by decide) (va_runV (As := [.int 0, .int 1]) (rest := []) ⟨hx, hb, hml, hown, hts⟩ (c_X2_isThrown_0 l D mo m1 m2 m3 m4 s.heap.size th mn 1) (cwV 2 hts gX2_steps_X2_isThrown rfl rfl rfl (by decide +kernel) ⟨Nat.le_of_ble_eq_true rfl, Nat.le_of_ble_eq_true rfl⟩) ⟨ny_blind, va_recv hK hP (ci := 4) (q0 := 0) rfl rfl, fun U hU hW => ⟨rfl, ny_preU hE hP hK hD hS hA [0] rfl (by decide) rfl [] rfl U hU hW⟩⟩ rfl rfl hl.1 rfl (lv_room (Nat.le_of_ble_eq_true rfl)) dX2_steps_21 ⟨Nat.le_of_ble_eq_true rfl, Nat.le_of_ble_eq_true rfl⟩) (fun r_21 u H locs hw_21 hP hD hS => ?_)
  have hP : va_P D vwCl [(m1, .inl (cI, 12, .inl hf)), (m4, .inl (cI, 16, .inl mt)), (mo, .inr (4, [.int 0, .ref m1, .ref m2, .ref m3, .ref m4, .int mn]))] H := hP
  have hD : va_D A [(m1, .inl (cI, 12, .inl hf)), (m4, .inl (cI, 16, .inl mt)), (mo, .inr (4, [.int 0, .ref m1, .ref m2, .ref m3, .ref m4, .int mn]))] := hD
  have hw_21 : r_21 = 0 := hw_21
  subst hw_21
  refine lv_if_eq (tgt := 31) hx hb dX2_steps_24 (by decide) (fun c_24 => ?_) (fun c_24 => absurd (show (0 : Int32) = 0 by  decide) c_24)
  refine lv_aload_n hx hb dX2_steps_31 rfl (lv_at hl 0 rfl) ?_
  refine lv_aload_n hx hb dX2_steps_32 rfl (lv_at hl 0 rfl) ?_
  refine va_get (D := D) (ci := 4) (v := .ref m1) (C := RX2) (T := TX2) (N := 6) hx hb hts in_X2_steps_X2 hown hK hP 2 rfl rfl 1 (by decide) (hts (.fieldLink RX2 7 "NearestclockModel" "eighths" "[I") (List.mem_of_getElem? (i := 1) rfl)) (fun _ h9 => h9) rfl dX2_steps_33 ?_
  refine lv_iload_n hx hb dX2_steps_36 rfl (lv_at hl 1 rfl) ?_
  refine va_iald hx hb hK hP 0 0 rfl rfl (by assumption) dX2_steps_37 ?_
  refine lv_aload_n hx hb dX2_steps_38 rfl (lv_at hl 0 rfl) ?_
  refine va_get (D := D) (ci := 4) (v := .ref m1) (C := RX2) (T := TX2) (N := 6) hx hb hts in_X2_steps_X2 hown hK hP 2 rfl rfl 1 (by decide) (hts (.fieldLink RX2 7 "NearestclockModel" "eighths" "[I") (List.mem_of_getElem? (i := 1) rfl)) (fun _ h9 => h9) rfl dX2_steps_39 ?_
  refine lv_iload_n hx hb dX2_steps_42 rfl (lv_at hl 2 rfl) ?_
  refine va_iald hx hb hK hP 0 0 rfl rfl (by assumption) dX2_steps_43 ?_
  refine ny_i (wc := [(mo, .inr (4, [.int 0, .ref m1, .ref m2, .ref m3, .ref m4, .int mn])), (m4, .inl (cI, 16, .inl mt))]) (wr := [(m1, .inl (cI, 12, .inl hf))]) hP hD hS hA [2, 1] [0] rfl rfl (by decide) (by decide) (va_runV (As := [.int (hf i0.toNatClampNeg), .int (hf i1.toNatClampNeg)]) (rest := []) ⟨hx, hb, hml, hown, hts⟩ (c_X2_takes l D cI mo m1 m2 m3 m4 H.size 0 mn mt (hf i0.toNatClampNeg) (hf i1.toNatClampNeg) (gH _ (n_ix gp0)) (gH _ (n_ix gp1))) (cwV 2 hts gX2_steps_X2_takes rfl rfl rfl (by decide +kernel) ⟨Nat.le_of_ble_eq_true rfl, Nat.le_of_ble_eq_true rfl⟩) ⟨ny_blind, va_recv hK hP (ci := 4) (q0 := 2) rfl rfl, fun U hU hW => ⟨rfl, ny_preU hE hP hK hD hS hA [2, 1] rfl (by decide) rfl [0] rfl U hU hW⟩⟩ rfl rfl hl.1 rfl (lv_room (Nat.le_of_ble_eq_true rfl)) dX2_steps_44 ⟨Nat.le_of_ble_eq_true rfl, Nat.le_of_ble_eq_true rfl⟩) (fun r_44 u H locs hw_44 hP hD hS => ?_)
  have hP : va_P D vwCl [(m1, .inl (cI, 12, .inl hf)), (mo, .inr (4, [.int 0, .ref m1, .ref m2, .ref m3, .ref m4, .int mn])), (m4, .inl (cI, 16, .inl (f_row mt (hf i0.toNatClampNeg) (hf i1.toNatClampNeg) (f_ln (hf i0.toNatClampNeg) (hf i1.toNatClampNeg)))))] H := hP
  have hD : va_D A [(m1, .inl (cI, 12, .inl hf)), (mo, .inr (4, [.int 0, .ref m1, .ref m2, .ref m3, .ref m4, .int mn])), (m4, .inl (cI, 16, .inl (f_row mt (hf i0.toNatClampNeg) (hf i1.toNatClampNeg) (f_ln (hf i0.toNatClampNeg) (hf i1.toNatClampNeg)))))] := hD
  have hw_44 : r_44 = nI (f_ln (hf i0.toNatClampNeg) (hf i1.toNatClampNeg)) := hw_44
  subst hw_44
  have hP9 := hP.sub (ws' := [(mo, .inr (4, [.int 0, .ref m1, .ref m2, .ref m3, .ref m4, .int mn])), (m1, .inl (cI, 12, .inl hf)), (m4, .inl (cI, 16, .inl (f_row mt (hf i0.toNatClampNeg) (hf i1.toNatClampNeg) (f_ln (hf i0.toNatClampNeg) (hf i1.toNatClampNeg)))))]) [1, 0, 2] rfl
  have hD9 := hD.sub (ws' := [(mo, .inr (4, [.int 0, .ref m1, .ref m2, .ref m3, .ref m4, .int mn])), (m1, .inl (cI, 12, .inl hf)), (m4, .inl (cI, 16, .inl (f_row mt (hf i0.toNatClampNeg) (hf i1.toNatClampNeg) (f_ln (hf i0.toNatClampNeg) (hf i1.toNatClampNeg)))))]) [1, 0, 2] (by decide) rfl
  exact W.iret (v := nI (f_ln (hf i0.toNatClampNeg) (hf i1.toNatClampNeg))) hx hb hr (fun t ht hW => ⟨⟨nI (f_ln (hf i0.toNatClampNeg) (hf i1.toNatClampNeg)), (), rfl, (rfl), by rw [ht]; exact hP9, va_K.moved hW.alike hK, hD9⟩, hS.F ht⟩) hS.2.2 dX2_steps_47
set_option maxHeartbeats 4000000 in
set_option maxRecDepth 100000 in
theorem c_X2_steps_noP (l : Launch) (D : va_G) (cI : ClassId) (mo : Nat) (m1 : Nat) (m2 : Nat) (m3 : Nat) (m4 : Nat) (sz : Nat) (th : Int32) (mn : Int32) (hf : Nat → Int32) (mt : Nat → Int32) (i0 : Int32) (i1 : Int32) (gb : ¬ vp_in i0 12 ∨ ¬ vp_in i1 12) : Met l yX2_steps wsX2_steps ({ frames := 1, cells := 0, slots := 0, locals := 22 }) (va_Pc [.ref mo, .int i0, .int i1] (ny_pre D [(cI, .int)] [(mo, .inr (4, [.int th, .ref m1, .ref m2, .ref m3, .ref m4, .int mn])), (m1, .inl (cI, 12, .inl hf)), (m4, .inl (cI, 16, .inl mt))] sz)) (va_Qi (fun (r : Int32) (u : Unit) => r = 0) (fun (u : Unit) t => ny_at D [(cI, .int)] (va_A [(mo, .inr (4, [.int th, .ref m1, .ref m2, .ref m3, .ref m4, .int mn])), (m1, .inl (cI, 12, .inl hf)), (m4, .inl (cI, 16, .inl mt))] sz) [(mo, .inr (4, [.int 1, .ref m1, .ref m2, .ref m3, .ref m4, .int mn])), (m1, .inl (cI, 12, .inl hf)), (m4, .inl (cI, 16, .inl mt))] t) (va_A [(mo, .inr (4, [.int th, .ref m1, .ref m2, .ref m3, .ref m4, .int mn])), (m1, .inl (cI, 12, .inl hf)), (m4, .inl (cI, 16, .inl mt))] sz)) 0 0 (va_A [(mo, .inr (4, [.int th, .ref m1, .ref m2, .ref m3, .ref m4, .int mn])), (m1, .inl (cI, 12, .inl hf)), (m4, .inl (cI, 16, .inl mt))] sz) := by
  refine Met.ofW (cc := cX2_steps) (maxL := 3) (ret := (some .int)) (by decide) rfl ?_
  intro p e s m args below meth c s₁ B hml hv
  obtain ⟨rfl, hsz, hP, hK, hD0, hE⟩ := hv
  have hx := B.exec
  have hb := B.bytes
  have hr := B.returns
  have hts := atoms_spec (ws := wsX2_steps) B.pre
  have hown : s.vm.findClass RX2 = some m.cls := findClass_of_methodNamed B.named
  have hlocks := B.notSynchronized
  subst hsz
  have hD := hD0.self (sz := s.heap.size)
  generalize hAe : va_A [(mo, .inr (4, [.int th, .ref m1, .ref m2, .ref m3, .ref m4, .int mn])), (m1, .inl (cI, 12, .inl hf)), (m4, .inl (cI, 16, .inl mt))] s.heap.size = A at hD hE ⊢
  have hA : ∀ q : Nat, s.heap.size ≤ q → A q := fun q h => by rw [← hAe]; exact Or.inr h
  have hS : va_S A s.heap s.heap [] := va_S.rf
  have hl := lv_entry ([.ref mo, .int i0, .int i1]) (n := 3) (Nat.le_of_ble_eq_true rfl)
  rw [lg_entry_eq]
  generalize (lg_sl ([.ref mo, .int i0, .int i1]) ++ List.replicate (3 - (lg_sl ([.ref mo, .int i0, .int i1])).length) Slot.unset).toArray = ls at hl ⊢
  have hl : lv_has ls 3 [(0, .ref mo), (1, .int i0), (2, .int i1)] := hl
  refine lv_aload_n hx hb dX2_steps_0 rfl (lv_at hl 0 rfl) ?_
  refine lv_iload_n hx hb dX2_steps_1 rfl (lv_at hl 1 rfl) ?_
  by_cases q_2 : vp_in i0 12
  · have gb := gb.resolve_left (fun h => h q_2)
    refine vp_callSi (va_Run.run (va_runS (As := [.int i0]) (rest := [.ref mo]) ⟨hx, hb, hml, hown, hts⟩ (c_X2_isPlace l i0 (by assumption)) (va_cwS 1 hts gX2_steps_X2_isPlace rfl rfl rfl (by decide +kernel) ⟨Nat.le_of_ble_eq_true rfl, Nat.le_of_ble_eq_true rfl⟩) ⟨ny_blindT, fun U hU hW => ⟨rfl, trivial⟩⟩ rfl rfl hl.1 rfl (lv_room (Nat.le_of_ble_eq_true rfl)) dX2_steps_2 ⟨Nat.le_of_ble_eq_true rfl, Nat.le_of_ble_eq_true rfl⟩)) (fun r_2 hw_2 => ?_)
    have hw_2 : r_2 = 1 := hw_2
    subst hw_2
    refine lv_if_eq (tgt := 15) hx hb dX2_steps_5 (by decide) (fun c_5 => absurd c_5 (show ¬ ((1 : Int32) = 0) by  decide)) (fun c_5 => ?_)
    refine lv_iload_n hx hb dX2_steps_8 rfl (lv_at hl 2 rfl) ?_
    refine vp_callSi (va_Run.run (va_runS (As := [.int i1]) (rest := [.ref mo]) ⟨hx, hb, hml, hown, hts⟩ (c_X2_isPlace_no l i1 (by assumption)) (va_cwS 1 hts gX2_steps_X2_isPlace rfl rfl rfl (by decide +kernel) ⟨Nat.le_of_ble_eq_true rfl, Nat.le_of_ble_eq_true rfl⟩) ⟨ny_blindT, fun U hU hW => ⟨rfl, trivial⟩⟩ rfl rfl hl.1 rfl (lv_room (Nat.le_of_ble_eq_true rfl)) dX2_steps_9 ⟨Nat.le_of_ble_eq_true rfl, Nat.le_of_ble_eq_true rfl⟩)) (fun r_9 hw_9 => ?_)
    have hw_9 : r_9 = 0 := hw_9
    subst hw_9
    refine lv_if_ne (tgt := 19) hx hb dX2_steps_12 (by decide) (fun c_12 => absurd (show (0 : Int32) = 0 by  decide) c_12) (fun c_12 => ?_)
    refine lv_iconst (v := 1) hx hb dX2_steps_15 (by decide) ?_
    refine lv_goto (tgt := 20) hx hb dX2_steps_16 (by decide) ?_
    refine lv_iconst (v := 1) hx hb dX2_steps_20 (by decide) ?_
    refine ny_i (wc := [(mo, .inr (4, [.int th, .ref m1, .ref m2, .ref m3, .ref m4, .int mn]))]) (wr := [(m1, .inl (cI, 12, .inl hf)), (m4, .inl (cI, 16, .inl mt))]) hP hD hS hA [0] [1, 2] rfl rfl (by decide) (by decide) (va_runV (As := [.int 1, .int 1]) (rest := []) ⟨hx, hb, hml, hown, hts⟩ (c_X2_isThrown_1 l D mo m1 m2 m3 m4 s.heap.size th mn 1) (cwV 2 hts gX2_steps_X2_isThrown rfl rfl rfl (by decide +kernel) ⟨Nat.le_of_ble_eq_true rfl, Nat.le_of_ble_eq_true rfl⟩) ⟨ny_blind, va_recv hK hP (ci := 4) (q0 := 0) rfl rfl, fun U hU hW => ⟨rfl, ny_preU hE hP hK hD hS hA [0] rfl (by decide) rfl [] rfl U hU hW⟩⟩ rfl rfl hl.1 rfl (lv_room (Nat.le_of_ble_eq_true rfl)) dX2_steps_21 ⟨Nat.le_of_ble_eq_true rfl, Nat.le_of_ble_eq_true rfl⟩) (fun r_21 u H locs hw_21 hP hD hS => ?_)
    have hP : va_P D vwCl [(m1, .inl (cI, 12, .inl hf)), (m4, .inl (cI, 16, .inl mt)), (mo, .inr (4, [.int 1, .ref m1, .ref m2, .ref m3, .ref m4, .int mn]))] H := hP
    have hD : va_D A [(m1, .inl (cI, 12, .inl hf)), (m4, .inl (cI, 16, .inl mt)), (mo, .inr (4, [.int 1, .ref m1, .ref m2, .ref m3, .ref m4, .int mn]))] := hD
    have hw_21 : r_21 = 1 := hw_21
    subst hw_21
    refine lv_if_eq (tgt := 31) hx hb dX2_steps_24 (by decide) (fun c_24 => absurd c_24 (show ¬ ((1 : Int32) = 0) by  decide)) (fun c_24 => ?_)
    refine lv_iconst (v := 0) hx hb dX2_steps_27 (by decide) ?_
    refine lv_goto (tgt := 47) hx hb dX2_steps_28 (by decide) ?_
    have hP9 := hP.sub (ws' := [(mo, .inr (4, [.int 1, .ref m1, .ref m2, .ref m3, .ref m4, .int mn])), (m1, .inl (cI, 12, .inl hf)), (m4, .inl (cI, 16, .inl mt))]) [2, 0, 1] rfl
    have hD9 := hD.sub (ws' := [(mo, .inr (4, [.int 1, .ref m1, .ref m2, .ref m3, .ref m4, .int mn])), (m1, .inl (cI, 12, .inl hf)), (m4, .inl (cI, 16, .inl mt))]) [2, 0, 1] (by decide) rfl
    exact W.iret (v := 0) hx hb hr (fun t ht hW => ⟨⟨0, (), rfl, (rfl), by rw [ht]; exact hP9, va_K.moved hW.alike hK, hD9⟩, hS.F ht⟩) hS.2.2 dX2_steps_47
  · refine vp_callSi (va_Run.run (va_runS (As := [.int i0]) (rest := [.ref mo]) ⟨hx, hb, hml, hown, hts⟩ (c_X2_isPlace_no l i0 (by assumption)) (va_cwS 1 hts gX2_steps_X2_isPlace rfl rfl rfl (by decide +kernel) ⟨Nat.le_of_ble_eq_true rfl, Nat.le_of_ble_eq_true rfl⟩) ⟨ny_blindT, fun U hU hW => ⟨rfl, trivial⟩⟩ rfl rfl hl.1 rfl (lv_room (Nat.le_of_ble_eq_true rfl)) dX2_steps_2 ⟨Nat.le_of_ble_eq_true rfl, Nat.le_of_ble_eq_true rfl⟩)) (fun r_2 hw_2 => ?_)
    have hw_2 : r_2 = 0 := hw_2
    subst hw_2
    refine lv_if_eq (tgt := 15) hx hb dX2_steps_5 (by decide) (fun c_5 => ?_) (fun c_5 => absurd (show (0 : Int32) = 0 by  decide) c_5)
    refine lv_iconst (v := 1) hx hb dX2_steps_15 (by decide) ?_
    refine lv_goto (tgt := 20) hx hb dX2_steps_16 (by decide) ?_
    refine lv_iconst (v := 1) hx hb dX2_steps_20 (by decide) ?_
    refine ny_i (wc := [(mo, .inr (4, [.int th, .ref m1, .ref m2, .ref m3, .ref m4, .int mn]))]) (wr := [(m1, .inl (cI, 12, .inl hf)), (m4, .inl (cI, 16, .inl mt))]) hP hD hS hA [0] [1, 2] rfl rfl (by decide) (by decide) (va_runV (As := [.int 1, .int 1]) (rest := []) ⟨hx, hb, hml, hown, hts⟩ (c_X2_isThrown_1 l D mo m1 m2 m3 m4 s.heap.size th mn 1) (cwV 2 hts gX2_steps_X2_isThrown rfl rfl rfl (by decide +kernel) ⟨Nat.le_of_ble_eq_true rfl, Nat.le_of_ble_eq_true rfl⟩) ⟨ny_blind, va_recv hK hP (ci := 4) (q0 := 0) rfl rfl, fun U hU hW => ⟨rfl, ny_preU hE hP hK hD hS hA [0] rfl (by decide) rfl [] rfl U hU hW⟩⟩ rfl rfl hl.1 rfl (lv_room (Nat.le_of_ble_eq_true rfl)) dX2_steps_21 ⟨Nat.le_of_ble_eq_true rfl, Nat.le_of_ble_eq_true rfl⟩) (fun r_21 u H locs hw_21 hP hD hS => ?_)
    have hP : va_P D vwCl [(m1, .inl (cI, 12, .inl hf)), (m4, .inl (cI, 16, .inl mt)), (mo, .inr (4, [.int 1, .ref m1, .ref m2, .ref m3, .ref m4, .int mn]))] H := hP
    have hD : va_D A [(m1, .inl (cI, 12, .inl hf)), (m4, .inl (cI, 16, .inl mt)), (mo, .inr (4, [.int 1, .ref m1, .ref m2, .ref m3, .ref m4, .int mn]))] := hD
    have hw_21 : r_21 = 1 := hw_21
    subst hw_21
    refine lv_if_eq (tgt := 31) hx hb dX2_steps_24 (by decide) (fun c_24 => absurd c_24 (show ¬ ((1 : Int32) = 0) by  decide)) (fun c_24 => ?_)
    refine lv_iconst (v := 0) hx hb dX2_steps_27 (by decide) ?_
    refine lv_goto (tgt := 47) hx hb dX2_steps_28 (by decide) ?_
    have hP9 := hP.sub (ws' := [(mo, .inr (4, [.int 1, .ref m1, .ref m2, .ref m3, .ref m4, .int mn])), (m1, .inl (cI, 12, .inl hf)), (m4, .inl (cI, 16, .inl mt))]) [2, 0, 1] rfl
    have hD9 := hD.sub (ws' := [(mo, .inr (4, [.int 1, .ref m1, .ref m2, .ref m3, .ref m4, .int mn])), (m1, .inl (cI, 12, .inl hf)), (m4, .inl (cI, 16, .inl mt))]) [2, 0, 1] (by decide) rfl
    exact W.iret (v := 0) hx hb hr (fun t ht hW => ⟨⟨0, (), rfl, (rfl), by rw [ht]; exact hP9, va_K.moved hW.alike hK, hD9⟩, hS.F ht⟩) hS.2.2 dX2_steps_47
theorem in_X2_digits_X2 : ∀ w ∈ wsX20, w ∈ wsX2_digits := (fun _ h => List.mem_cons_of_mem _ (List.mem_append_left _ (List.mem_append_right _ h)))
set_option maxHeartbeats 4000000 in
set_option maxRecDepth 100000 in
theorem c_X2_digits (l : Launch) (D : va_G) (cI : ClassId) (mo : Nat) (m1 : Nat) (m2 : Nat) (m3 : Nat) (m4 : Nat) (sz : Nat) (th : Int32) (mn : Int32) (hf : Nat → Int32) (mr : Nat → Int32) (mt : Nat → Int32) (i0 : Int32) (i1 : Int32) (gp0 : vp_in i0 12) (gp1 : vp_in i1 12) (g0 : ¬ hf i1.toNatClampNeg = 0) (gH : ny_H hf) : Met l yX2_digits wsX2_digits ({ frames := 3, cells := 0, slots := 0, locals := 71 }) (va_Pc [.ref mo, .int i0, .int i1] (ny_pre D [(cI, .int)] [(mo, .inr (4, [.int th, .ref m1, .ref m2, .ref m3, .ref m4, .int mn])), (m1, .inl (cI, 12, .inl hf)), (m3, .inl (cI, 16, .inl mr)), (m4, .inl (cI, 16, .inl mt))] sz)) (va_Qi (fun (r : Int32) (u : Unit) => r = nI (f_ln (hf i0.toNatClampNeg) (hf i1.toNatClampNeg))) (fun (u : Unit) t => ny_at D [(cI, .int)] (va_A [(mo, .inr (4, [.int th, .ref m1, .ref m2, .ref m3, .ref m4, .int mn])), (m1, .inl (cI, 12, .inl hf)), (m3, .inl (cI, 16, .inl mr)), (m4, .inl (cI, 16, .inl mt))] sz) [(mo, .inr (4, [.int 0, .ref m1, .ref m2, .ref m3, .ref m4, .int (nI (f_ln (hf i0.toNatClampNeg) (hf i1.toNatClampNeg)))])), (m1, .inl (cI, 12, .inl hf)), (m3, .inl (cI, 16, .inl (f_row mr (hf i0.toNatClampNeg) (hf i1.toNatClampNeg) (f_ln (hf i0.toNatClampNeg) (hf i1.toNatClampNeg))))), (m4, .inl (cI, 16, .inl (f_row mt (hf i0.toNatClampNeg) (hf i1.toNatClampNeg) (f_ln (hf i0.toNatClampNeg) (hf i1.toNatClampNeg)))))] t) (va_A [(mo, .inr (4, [.int th, .ref m1, .ref m2, .ref m3, .ref m4, .int mn])), (m1, .inl (cI, 12, .inl hf)), (m3, .inl (cI, 16, .inl mr)), (m4, .inl (cI, 16, .inl mt))] sz)) 0 0 (va_A [(mo, .inr (4, [.int th, .ref m1, .ref m2, .ref m3, .ref m4, .int mn])), (m1, .inl (cI, 12, .inl hf)), (m3, .inl (cI, 16, .inl mr)), (m4, .inl (cI, 16, .inl mt))] sz) := by
  refine Met.ofW (cc := cX2_digits) (maxL := 4) (ret := (some .int)) (by decide) rfl ?_
  intro p e s m args below meth c s₁ B hml hv
  obtain ⟨rfl, hsz, hP, hK, hD0, hE⟩ := hv
  have hx := B.exec
  have hb := B.bytes
  have hr := B.returns
  have hts := atoms_spec (ws := wsX2_digits) B.pre
  have hown : s.vm.findClass RX2 = some m.cls := findClass_of_methodNamed B.named
  have hlocks := B.notSynchronized
  subst hsz
  have hD := hD0.self (sz := s.heap.size)
  generalize hAe : va_A [(mo, .inr (4, [.int th, .ref m1, .ref m2, .ref m3, .ref m4, .int mn])), (m1, .inl (cI, 12, .inl hf)), (m3, .inl (cI, 16, .inl mr)), (m4, .inl (cI, 16, .inl mt))] s.heap.size = A at hD hE ⊢
  have hA : ∀ q : Nat, s.heap.size ≤ q → A q := fun q h => by rw [← hAe]; exact Or.inr h
  have hS : va_S A s.heap s.heap [] := va_S.rf
  have hl := lv_entry ([.ref mo, .int i0, .int i1]) (n := 4) (Nat.le_of_ble_eq_true rfl)
  rw [lg_entry_eq]
  generalize (lg_sl ([.ref mo, .int i0, .int i1]) ++ List.replicate (4 - (lg_sl ([.ref mo, .int i0, .int i1])).length) Slot.unset).toArray = ls at hl ⊢
  have hl : lv_has ls 4 [(0, .ref mo), (1, .int i0), (2, .int i1)] := hl
  refine lv_aload_n hx hb dX2_digits_0 rfl (lv_at hl 0 rfl) ?_
  refine lv_iload_n hx hb dX2_digits_1 rfl (lv_at hl 1 rfl) ?_
  refine lv_iload_n hx hb dX2_digits_2 rfl (lv_at hl 1 rfl) ?_
  refine lv_iload_n hx hb dX2_digits_3 rfl (lv_at hl 1 rfl) ?_
  refine lv_iload_n hx hb dX2_digits_4 rfl (lv_at hl 2 rfl) ?_
  refine ny_i (wc := [(mo, .inr (4, [.int th, .ref m1, .ref m2, .ref m3, .ref m4, .int mn])), (m1, .inl (cI, 12, .inl hf))]) (wr := [(m3, .inl (cI, 16, .inl mr)), (m4, .inl (cI, 16, .inl mt))]) hP hD hS hA [0, 1] [2, 3] rfl rfl (by decide) (by decide) (va_runV (As := [.int i0, .int i0, .int i0, .int i1]) (rest := []) ⟨hx, hb, hml, hown, hts⟩ (c_X2_isBad l D cI mo m1 m2 m3 m4 s.heap.size th mn hf i0 i0 i0 i1 (by assumption) (by assumption) (by assumption) (by assumption) (by assumption)) (cwV 4 hts gX2_digits_X2_isBad rfl rfl rfl (by decide +kernel) ⟨Nat.le_of_ble_eq_true rfl, Nat.le_of_ble_eq_true rfl⟩) ⟨ny_blind, va_recv hK hP (ci := 4) (q0 := 0) rfl rfl, fun U hU hW => ⟨rfl, ny_preU hE hP hK hD hS hA [0, 1] rfl (by decide) rfl [0] rfl U hU hW⟩⟩ rfl rfl hl.1 rfl (lv_room (Nat.le_of_ble_eq_true rfl)) dX2_digits_5 ⟨Nat.le_of_ble_eq_true rfl, Nat.le_of_ble_eq_true rfl⟩) (fun r_5 u H locs hw_5 hP hD hS => ?_)
  have hP : va_P D vwCl [(m3, .inl (cI, 16, .inl mr)), (m4, .inl (cI, 16, .inl mt)), (mo, .inr (4, [.int 0, .ref m1, .ref m2, .ref m3, .ref m4, .int mn])), (m1, .inl (cI, 12, .inl hf))] H := hP
  have hD : va_D A [(m3, .inl (cI, 16, .inl mr)), (m4, .inl (cI, 16, .inl mt)), (mo, .inr (4, [.int 0, .ref m1, .ref m2, .ref m3, .ref m4, .int mn])), (m1, .inl (cI, 12, .inl hf))] := hD
  have hw_5 : r_5 = 0 := hw_5
  subst hw_5
  refine lv_if_eq (tgt := 13) hx hb dX2_digits_8 (by decide) (fun c_8 => ?_) (fun c_8 => absurd (show (0 : Int32) = 0 by  decide) c_8)
  refine lv_aload_n hx hb dX2_digits_13 rfl (lv_at hl 0 rfl) ?_
  refine lv_aload_n hx hb dX2_digits_14 rfl (lv_at hl 0 rfl) ?_
  refine lv_aload_n hx hb dX2_digits_15 rfl (lv_at hl 0 rfl) ?_
  refine va_get (D := D) (ci := 4) (v := .ref m1) (C := RX2) (T := TX2) (N := 6) hx hb hts in_X2_digits_X2 hown hK hP 2 rfl rfl 1 (by decide) (hts (.fieldLink RX2 7 "NearestclockModel" "eighths" "[I") (List.mem_of_getElem? (i := 1) rfl)) (fun _ h9 => h9) rfl dX2_digits_16 ?_
  refine lv_iload_n hx hb dX2_digits_19 rfl (lv_at hl 1 rfl) ?_
  refine va_iald hx hb hK hP 3 0 rfl rfl (by assumption) dX2_digits_20 ?_
  refine lv_aload_n hx hb dX2_digits_21 rfl (lv_at hl 0 rfl) ?_
  refine va_get (D := D) (ci := 4) (v := .ref m1) (C := RX2) (T := TX2) (N := 6) hx hb hts in_X2_digits_X2 hown hK hP 2 rfl rfl 1 (by decide) (hts (.fieldLink RX2 7 "NearestclockModel" "eighths" "[I") (List.mem_of_getElem? (i := 1) rfl)) (fun _ h9 => h9) rfl dX2_digits_22 ?_
  refine lv_iload_n hx hb dX2_digits_25 rfl (lv_at hl 2 rfl) ?_
  refine va_iald hx hb hK hP 3 0 rfl rfl (by assumption) dX2_digits_26 ?_
  refine ny_i (wc := [(mo, .inr (4, [.int 0, .ref m1, .ref m2, .ref m3, .ref m4, .int mn])), (m4, .inl (cI, 16, .inl mt))]) (wr := [(m3, .inl (cI, 16, .inl mr)), (m1, .inl (cI, 12, .inl hf))]) hP hD hS hA [2, 1] [0, 3] rfl rfl (by decide) (by decide) (va_runV (As := [.int (hf i0.toNatClampNeg), .int (hf i1.toNatClampNeg)]) (rest := [.ref mo]) ⟨hx, hb, hml, hown, hts⟩ (c_X2_takes l D cI mo m1 m2 m3 m4 H.size 0 mn mt (hf i0.toNatClampNeg) (hf i1.toNatClampNeg) (gH _ (n_ix gp0)) (gH _ (n_ix gp1))) (cwV 2 hts gX2_digits_X2_takes rfl rfl rfl (by decide +kernel) ⟨Nat.le_of_ble_eq_true rfl, Nat.le_of_ble_eq_true rfl⟩) ⟨ny_blind, va_recv hK hP (ci := 4) (q0 := 2) rfl rfl, fun U hU hW => ⟨rfl, ny_preU hE hP hK hD hS hA [2, 1] rfl (by decide) rfl [0] rfl U hU hW⟩⟩ rfl rfl hl.1 rfl (lv_room (Nat.le_of_ble_eq_true rfl)) dX2_digits_27 ⟨Nat.le_of_ble_eq_true rfl, Nat.le_of_ble_eq_true rfl⟩) (fun r_27 u H locs hw_27 hP hD hS => ?_)
  have hP : va_P D vwCl [(m3, .inl (cI, 16, .inl mr)), (m1, .inl (cI, 12, .inl hf)), (mo, .inr (4, [.int 0, .ref m1, .ref m2, .ref m3, .ref m4, .int mn])), (m4, .inl (cI, 16, .inl (f_row mt (hf i0.toNatClampNeg) (hf i1.toNatClampNeg) (f_ln (hf i0.toNatClampNeg) (hf i1.toNatClampNeg)))))] H := hP
  have hD : va_D A [(m3, .inl (cI, 16, .inl mr)), (m1, .inl (cI, 12, .inl hf)), (mo, .inr (4, [.int 0, .ref m1, .ref m2, .ref m3, .ref m4, .int mn])), (m4, .inl (cI, 16, .inl (f_row mt (hf i0.toNatClampNeg) (hf i1.toNatClampNeg) (f_ln (hf i0.toNatClampNeg) (hf i1.toNatClampNeg)))))] := hD
  have hw_27 : r_27 = nI (f_ln (hf i0.toNatClampNeg) (hf i1.toNatClampNeg)) := hw_27
  subst hw_27
  refine va_put (D := D) (ci := 4) (v := .int (nI (f_ln (hf i0.toNatClampNeg) (hf i1.toNatClampNeg)))) (ty := .int) (C := RX2) (T := TX2) (N := 6) hx hb hts in_X2_digits_X2 tyX2 tyX2_ok nmX2 hown hK hP hD hS 2 rfl rfl 5 (by decide) (hts (.fieldLink RX2 88 "NearestclockModel" "many" "I") (List.mem_of_getElem? (i := 2) rfl)) (fun _ h9 => h9) rfl (by decide +kernel) rfl rfl (Nat.le_of_ble_eq_true rfl) dX2_digits_30 (fun H locs hP hD hS => ?_)
  have hP : va_P D vwCl [(m3, .inl (cI, 16, .inl mr)), (m1, .inl (cI, 12, .inl hf)), (mo, .inr (4, [.int 0, .ref m1, .ref m2, .ref m3, .ref m4, .int (nI (f_ln (hf i0.toNatClampNeg) (hf i1.toNatClampNeg)))])), (m4, .inl (cI, 16, .inl (f_row mt (hf i0.toNatClampNeg) (hf i1.toNatClampNeg) (f_ln (hf i0.toNatClampNeg) (hf i1.toNatClampNeg)))))] H := hP
  have hD : va_D A [(m3, .inl (cI, 16, .inl mr)), (m1, .inl (cI, 12, .inl hf)), (mo, .inr (4, [.int 0, .ref m1, .ref m2, .ref m3, .ref m4, .int (nI (f_ln (hf i0.toNatClampNeg) (hf i1.toNatClampNeg)))])), (m4, .inl (cI, 16, .inl (f_row mt (hf i0.toNatClampNeg) (hf i1.toNatClampNeg) (f_ln (hf i0.toNatClampNeg) (hf i1.toNatClampNeg)))))] := hD
  refine lv_iconst (v := 0) hx hb dX2_digits_33 (by decide) ?_
  refine ny_ti (x2 := nI 0) (rfl) ?_
  refine lv_istore_n (lv' := [(3, .int (nI 0)), (0, .ref mo), (1, .int i0), (2, .int i1)]) hx hb dX2_digits_34 rfl hl (by decide) rfl (fun ls hl => ?_)
  have hP : va_P D vwCl [(m3, .inl (cI, 16, .inl (f_row mr (hf i0.toNatClampNeg) (hf i1.toNatClampNeg) 0))), (m1, .inl (cI, 12, .inl hf)), (mo, .inr (4, [.int 0, .ref m1, .ref m2, .ref m3, .ref m4, .int (nI (f_ln (hf i0.toNatClampNeg) (hf i1.toNatClampNeg)))])), (m4, .inl (cI, 16, .inl (f_row mt (hf i0.toNatClampNeg) (hf i1.toNatClampNeg) (f_ln (hf i0.toNatClampNeg) (hf i1.toNatClampNeg)))))] H := by rw [f_row0]; exact hP
  have hD : va_D A [(m3, .inl (cI, 16, .inl (f_row mr (hf i0.toNatClampNeg) (hf i1.toNatClampNeg) 0))), (m1, .inl (cI, 12, .inl hf)), (mo, .inr (4, [.int 0, .ref m1, .ref m2, .ref m3, .ref m4, .int (nI (f_ln (hf i0.toNatClampNeg) (hf i1.toNatClampNeg)))])), (m4, .inl (cI, 16, .inl (f_row mt (hf i0.toNatClampNeg) (hf i1.toNatClampNeg) (f_ln (hf i0.toNatClampNeg) (hf i1.toNatClampNeg)))))] := by rw [f_row0]; exact hD
  refine ny_lw 35 4 (fun u : Nat => u ≤ f_ln (hf i0.toNatClampNeg) (hf i1.toNatClampNeg)) (fun u => f_ln (hf i0.toNatClampNeg) (hf i1.toNatClampNeg) - u) (fun u => [(0, .ref mo), (1, .int i0), (2, .int i1), (3, .int (nI u))]) (fun u => [(mo, .inr (4, [.int 0, .ref m1, .ref m2, .ref m3, .ref m4, .int (nI (f_ln (hf i0.toNatClampNeg) (hf i1.toNatClampNeg)))])), (m1, .inl (cI, 12, .inl hf)), (m3, .inl (cI, 16, .inl (f_row mr (hf i0.toNatClampNeg) (hf i1.toNatClampNeg) u))), (m4, .inl (cI, 16, .inl (f_row mt (hf i0.toNatClampNeg) (hf i1.toNatClampNeg) (f_ln (hf i0.toNatClampNeg) (hf i1.toNatClampNeg)))))]) (fun u hu ih ls H locs hl hP hD hS => ?_) 0 (show 0 ≤ f_ln (hf i0.toNatClampNeg) (hf i1.toNatClampNeg) from Nat.zero_le _) (lv_sub hl [1, 2, 3, 0] rfl) (hP.sub (ws' := [(mo, .inr (4, [.int 0, .ref m1, .ref m2, .ref m3, .ref m4, .int (nI (f_ln (hf i0.toNatClampNeg) (hf i1.toNatClampNeg)))])), (m1, .inl (cI, 12, .inl hf)), (m3, .inl (cI, 16, .inl (f_row mr (hf i0.toNatClampNeg) (hf i1.toNatClampNeg) 0))), (m4, .inl (cI, 16, .inl (f_row mt (hf i0.toNatClampNeg) (hf i1.toNatClampNeg) (f_ln (hf i0.toNatClampNeg) (hf i1.toNatClampNeg)))))]) [2, 1, 0, 3] rfl) (hD.sub (ws' := [(mo, .inr (4, [.int 0, .ref m1, .ref m2, .ref m3, .ref m4, .int (nI (f_ln (hf i0.toNatClampNeg) (hf i1.toNatClampNeg)))])), (m1, .inl (cI, 12, .inl hf)), (m3, .inl (cI, 16, .inl (f_row mr (hf i0.toNatClampNeg) (hf i1.toNatClampNeg) 0))), (m4, .inl (cI, 16, .inl (f_row mt (hf i0.toNatClampNeg) (hf i1.toNatClampNeg) (f_ln (hf i0.toNatClampNeg) (hf i1.toNatClampNeg)))))]) [2, 1, 0, 3] (by decide) rfl) hS
  obtain ⟨k, rfl⟩ : ∃ z, z = u := ⟨_, rfl⟩
  have hk : k ≤ f_ln (hf i0.toNatClampNeg) (hf i1.toNatClampNeg) := hu
  have hl : lv_has ls 4 [(0, .ref mo), (1, .int i0), (2, .int i1), (3, .int (nI k))] := hl
  have hP : va_P D vwCl [(mo, .inr (4, [.int 0, .ref m1, .ref m2, .ref m3, .ref m4, .int (nI (f_ln (hf i0.toNatClampNeg) (hf i1.toNatClampNeg)))])), (m1, .inl (cI, 12, .inl hf)), (m3, .inl (cI, 16, .inl (f_row mr (hf i0.toNatClampNeg) (hf i1.toNatClampNeg) k))), (m4, .inl (cI, 16, .inl (f_row mt (hf i0.toNatClampNeg) (hf i1.toNatClampNeg) (f_ln (hf i0.toNatClampNeg) (hf i1.toNatClampNeg)))))] H := hP
  have hD : va_D A [(mo, .inr (4, [.int 0, .ref m1, .ref m2, .ref m3, .ref m4, .int (nI (f_ln (hf i0.toNatClampNeg) (hf i1.toNatClampNeg)))])), (m1, .inl (cI, 12, .inl hf)), (m3, .inl (cI, 16, .inl (f_row mr (hf i0.toNatClampNeg) (hf i1.toNatClampNeg) k))), (m4, .inl (cI, 16, .inl (f_row mt (hf i0.toNatClampNeg) (hf i1.toNatClampNeg) (f_ln (hf i0.toNatClampNeg) (hf i1.toNatClampNeg)))))] := hD
  have hL := n_lnI (x := (hf i0.toNatClampNeg)) (gH _ (n_ix gp1))
  refine lv_iload_n hx hb dX2_digits_35 rfl (lv_at hl 3 rfl) ?_
  refine lv_aload_n hx hb dX2_digits_36 rfl (lv_at hl 0 rfl) ?_
  refine va_get (D := D) (ci := 4) (v := .int (nI (f_ln (hf i0.toNatClampNeg) (hf i1.toNatClampNeg)))) (C := RX2) (T := TX2) (N := 6) hx hb hts in_X2_digits_X2 hown hK hP 0 rfl rfl 5 (by decide) (hts (.fieldLink RX2 88 "NearestclockModel" "many" "I") (List.mem_of_getElem? (i := 2) rfl)) (fun _ h9 => h9) rfl dX2_digits_37 ?_
  refine lv_icmp_ge (tgt := 61) hx hb dX2_digits_40 (by decide) (fun c_40 => ?_) (fun c_40 => ?_)
  · have hke : k = f_ln (hf i0.toNatClampNeg) (hf i1.toNatClampNeg) := by rw [fa_le, nI_toInt (by omega), nI_toInt (by omega)] at c_40; omega
    subst hke
    refine lv_aload_n hx hb dX2_digits_61 rfl (lv_at hl 0 rfl) ?_
    refine va_get (D := D) (ci := 4) (v := .int (nI (f_ln (hf i0.toNatClampNeg) (hf i1.toNatClampNeg)))) (C := RX2) (T := TX2) (N := 6) hx hb hts in_X2_digits_X2 hown hK hP 0 rfl rfl 5 (by decide) (hts (.fieldLink RX2 88 "NearestclockModel" "many" "I") (List.mem_of_getElem? (i := 2) rfl)) (fun _ h9 => h9) rfl dX2_digits_62 ?_
    have hP9 := hP.sub (ws' := [(mo, .inr (4, [.int 0, .ref m1, .ref m2, .ref m3, .ref m4, .int (nI (f_ln (hf i0.toNatClampNeg) (hf i1.toNatClampNeg)))])), (m1, .inl (cI, 12, .inl hf)), (m3, .inl (cI, 16, .inl (f_row mr (hf i0.toNatClampNeg) (hf i1.toNatClampNeg) (f_ln (hf i0.toNatClampNeg) (hf i1.toNatClampNeg))))), (m4, .inl (cI, 16, .inl (f_row mt (hf i0.toNatClampNeg) (hf i1.toNatClampNeg) (f_ln (hf i0.toNatClampNeg) (hf i1.toNatClampNeg)))))]) [0, 1, 2, 3] rfl
    have hD9 := hD.sub (ws' := [(mo, .inr (4, [.int 0, .ref m1, .ref m2, .ref m3, .ref m4, .int (nI (f_ln (hf i0.toNatClampNeg) (hf i1.toNatClampNeg)))])), (m1, .inl (cI, 12, .inl hf)), (m3, .inl (cI, 16, .inl (f_row mr (hf i0.toNatClampNeg) (hf i1.toNatClampNeg) (f_ln (hf i0.toNatClampNeg) (hf i1.toNatClampNeg))))), (m4, .inl (cI, 16, .inl (f_row mt (hf i0.toNatClampNeg) (hf i1.toNatClampNeg) (f_ln (hf i0.toNatClampNeg) (hf i1.toNatClampNeg)))))]) [0, 1, 2, 3] (by decide) rfl
    exact W.iret (v := nI (f_ln (hf i0.toNatClampNeg) (hf i1.toNatClampNeg))) hx hb hr (fun t ht hW => ⟨⟨nI (f_ln (hf i0.toNatClampNeg) (hf i1.toNatClampNeg)), (), rfl, (rfl), by rw [ht]; exact hP9, va_K.moved hW.alike hK, hD9⟩, hS.F ht⟩) hS.2.2 dX2_digits_65
  · have hk2 : k < f_ln (hf i0.toNatClampNeg) (hf i1.toNatClampNeg) := by rw [fa_le, nI_toInt (by omega), nI_toInt (by omega)] at c_40; omega
    refine lv_aload_n hx hb dX2_digits_43 rfl (lv_at hl 0 rfl) ?_
    refine va_get (D := D) (ci := 4) (v := .ref m3) (C := RX2) (T := TX2) (N := 6) hx hb hts in_X2_digits_X2 hown hK hP 0 rfl rfl 3 (by decide) (hts (.fieldLink RX2 17 "NearestclockModel" "row" "[I") (List.mem_of_getElem? (i := 3) rfl)) (fun _ h9 => h9) rfl dX2_digits_44 ?_
    refine lv_iload_n hx hb dX2_digits_47 rfl (lv_at hl 3 rfl) ?_
    refine lv_aload_n hx hb dX2_digits_48 rfl (lv_at hl 0 rfl) ?_
    refine va_get (D := D) (ci := 4) (v := .ref m4) (C := RX2) (T := TX2) (N := 6) hx hb hts in_X2_digits_X2 hown hK hP 0 rfl rfl 4 (by decide) (hts (.fieldLink RX2 20 "NearestclockModel" "taken" "[I") (List.mem_of_getElem? (i := 4) rfl)) (fun _ h9 => h9) rfl dX2_digits_49 ?_
    refine lv_iload_n hx hb dX2_digits_52 rfl (lv_at hl 3 rfl) ?_
    refine va_iald hx hb hK hP 3 0 rfl rfl (vp_in_nI (by omega) (by decide)) dX2_digits_53 ?_
    refine ny_ti (x2 := f_dg (hf i0.toNatClampNeg) (hf i1.toNatClampNeg) k) (f_rowAt mt (hf i0.toNatClampNeg) (hf i1.toNatClampNeg) hk2 (by omega)) ?_
    refine va_iast hx hb hK hP hD hS 2 0 rfl rfl (vp_in_nI (by omega) (by decide)) dX2_digits_54 (fun H locs hP hD hS => ?_)
    have hP : va_P D vwCl [(mo, .inr (4, [.int 0, .ref m1, .ref m2, .ref m3, .ref m4, .int (nI (f_ln (hf i0.toNatClampNeg) (hf i1.toNatClampNeg)))])), (m1, .inl (cI, 12, .inl hf)), (m3, .inl (cI, 16, .inl (upd (f_row mr (hf i0.toNatClampNeg) (hf i1.toNatClampNeg) k) (nI k).toNatClampNeg (f_dg (hf i0.toNatClampNeg) (hf i1.toNatClampNeg) k)))), (m4, .inl (cI, 16, .inl (f_row mt (hf i0.toNatClampNeg) (hf i1.toNatClampNeg) (f_ln (hf i0.toNatClampNeg) (hf i1.toNatClampNeg)))))] H := hP
    have hD : va_D A [(mo, .inr (4, [.int 0, .ref m1, .ref m2, .ref m3, .ref m4, .int (nI (f_ln (hf i0.toNatClampNeg) (hf i1.toNatClampNeg)))])), (m1, .inl (cI, 12, .inl hf)), (m3, .inl (cI, 16, .inl (upd (f_row mr (hf i0.toNatClampNeg) (hf i1.toNatClampNeg) k) (nI k).toNatClampNeg (f_dg (hf i0.toNatClampNeg) (hf i1.toNatClampNeg) k)))), (m4, .inl (cI, 16, .inl (f_row mt (hf i0.toNatClampNeg) (hf i1.toNatClampNeg) (f_ln (hf i0.toNatClampNeg) (hf i1.toNatClampNeg)))))] := hD
    refine lv_iinc (v := nI (k + 1)) (lv' := [(3, .int (nI (k + 1))), (0, .ref mo), (1, .int i0), (2, .int i1)]) hx hb dX2_digits_55 hl (k := 3) rfl (n_incN k) (by decide) rfl (fun ls hl => ?_)
    refine lv_goto (tgt := 35) hx hb dX2_digits_58 (by decide) ?_
    rw [f_rowSI mr (hf i0.toNatClampNeg) (hf i1.toNatClampNeg) (show k < 2 ^ 31 by omega)] at hP hD
    exact ih (k + 1) (show (k + 1) ≤ f_ln (hf i0.toNatClampNeg) (hf i1.toNatClampNeg) from (by omega)) (show f_ln (hf i0.toNatClampNeg) (hf i1.toNatClampNeg) - (k + 1) < f_ln (hf i0.toNatClampNeg) (hf i1.toNatClampNeg) - k by omega) _ _ _ (lv_sub hl [1, 2, 3, 0] rfl) (hP.sub (ws' := [(mo, .inr (4, [.int 0, .ref m1, .ref m2, .ref m3, .ref m4, .int (nI (f_ln (hf i0.toNatClampNeg) (hf i1.toNatClampNeg)))])), (m1, .inl (cI, 12, .inl hf)), (m3, .inl (cI, 16, .inl (f_row mr (hf i0.toNatClampNeg) (hf i1.toNatClampNeg) (k + 1)))), (m4, .inl (cI, 16, .inl (f_row mt (hf i0.toNatClampNeg) (hf i1.toNatClampNeg) (f_ln (hf i0.toNatClampNeg) (hf i1.toNatClampNeg)))))]) [0, 1, 2, 3] rfl) (hD.sub (ws' := [(mo, .inr (4, [.int 0, .ref m1, .ref m2, .ref m3, .ref m4, .int (nI (f_ln (hf i0.toNatClampNeg) (hf i1.toNatClampNeg)))])), (m1, .inl (cI, 12, .inl hf)), (m3, .inl (cI, 16, .inl (f_row mr (hf i0.toNatClampNeg) (hf i1.toNatClampNeg) (k + 1)))), (m4, .inl (cI, 16, .inl (f_row mt (hf i0.toNatClampNeg) (hf i1.toNatClampNeg) (f_ln (hf i0.toNatClampNeg) (hf i1.toNatClampNeg)))))]) [0, 1, 2, 3] (by decide) rfl) hS
set_option maxHeartbeats 4000000 in
set_option maxRecDepth 100000 in
theorem c_X2_digits_noP (l : Launch) (D : va_G) (cI : ClassId) (mo : Nat) (m1 : Nat) (m2 : Nat) (m3 : Nat) (m4 : Nat) (sz : Nat) (th : Int32) (mn : Int32) (hf : Nat → Int32) (mr : Nat → Int32) (mt : Nat → Int32) (i0 : Int32) (i1 : Int32) (gb : ¬ vp_in i0 12 ∨ ¬ vp_in i1 12) : Met l yX2_digits wsX2_digits ({ frames := 2, cells := 0, slots := 0, locals := 46 }) (va_Pc [.ref mo, .int i0, .int i1] (ny_pre D [(cI, .int)] [(mo, .inr (4, [.int th, .ref m1, .ref m2, .ref m3, .ref m4, .int mn])), (m1, .inl (cI, 12, .inl hf)), (m3, .inl (cI, 16, .inl mr)), (m4, .inl (cI, 16, .inl mt))] sz)) (va_Qi (fun (r : Int32) (u : Unit) => r = 0) (fun (u : Unit) t => ny_at D [(cI, .int)] (va_A [(mo, .inr (4, [.int th, .ref m1, .ref m2, .ref m3, .ref m4, .int mn])), (m1, .inl (cI, 12, .inl hf)), (m3, .inl (cI, 16, .inl mr)), (m4, .inl (cI, 16, .inl mt))] sz) [(mo, .inr (4, [.int 1, .ref m1, .ref m2, .ref m3, .ref m4, .int mn])), (m1, .inl (cI, 12, .inl hf)), (m3, .inl (cI, 16, .inl mr)), (m4, .inl (cI, 16, .inl mt))] t) (va_A [(mo, .inr (4, [.int th, .ref m1, .ref m2, .ref m3, .ref m4, .int mn])), (m1, .inl (cI, 12, .inl hf)), (m3, .inl (cI, 16, .inl mr)), (m4, .inl (cI, 16, .inl mt))] sz)) 0 0 (va_A [(mo, .inr (4, [.int th, .ref m1, .ref m2, .ref m3, .ref m4, .int mn])), (m1, .inl (cI, 12, .inl hf)), (m3, .inl (cI, 16, .inl mr)), (m4, .inl (cI, 16, .inl mt))] sz) := by
  refine Met.ofW (cc := cX2_digits) (maxL := 4) (ret := (some .int)) (by decide) rfl ?_
  intro p e s m args below meth c s₁ B hml hv
  obtain ⟨rfl, hsz, hP, hK, hD0, hE⟩ := hv
  have hx := B.exec
  have hb := B.bytes
  have hr := B.returns
  have hts := atoms_spec (ws := wsX2_digits) B.pre
  have hown : s.vm.findClass RX2 = some m.cls := findClass_of_methodNamed B.named
  have hlocks := B.notSynchronized
  subst hsz
  have hD := hD0.self (sz := s.heap.size)
  generalize hAe : va_A [(mo, .inr (4, [.int th, .ref m1, .ref m2, .ref m3, .ref m4, .int mn])), (m1, .inl (cI, 12, .inl hf)), (m3, .inl (cI, 16, .inl mr)), (m4, .inl (cI, 16, .inl mt))] s.heap.size = A at hD hE ⊢
  have hA : ∀ q : Nat, s.heap.size ≤ q → A q := fun q h => by rw [← hAe]; exact Or.inr h
  have hS : va_S A s.heap s.heap [] := va_S.rf
  have hl := lv_entry ([.ref mo, .int i0, .int i1]) (n := 4) (Nat.le_of_ble_eq_true rfl)
  rw [lg_entry_eq]
  generalize (lg_sl ([.ref mo, .int i0, .int i1]) ++ List.replicate (4 - (lg_sl ([.ref mo, .int i0, .int i1])).length) Slot.unset).toArray = ls at hl ⊢
  have hl : lv_has ls 4 [(0, .ref mo), (1, .int i0), (2, .int i1)] := hl
  refine lv_aload_n hx hb dX2_digits_0 rfl (lv_at hl 0 rfl) ?_
  refine lv_iload_n hx hb dX2_digits_1 rfl (lv_at hl 1 rfl) ?_
  refine lv_iload_n hx hb dX2_digits_2 rfl (lv_at hl 1 rfl) ?_
  refine lv_iload_n hx hb dX2_digits_3 rfl (lv_at hl 1 rfl) ?_
  refine lv_iload_n hx hb dX2_digits_4 rfl (lv_at hl 2 rfl) ?_
  refine ny_i (wc := [(mo, .inr (4, [.int th, .ref m1, .ref m2, .ref m3, .ref m4, .int mn])), (m1, .inl (cI, 12, .inl hf))]) (wr := [(m3, .inl (cI, 16, .inl mr)), (m4, .inl (cI, 16, .inl mt))]) hP hD hS hA [0, 1] [2, 3] rfl rfl (by decide) (by decide) (va_runV (As := [.int i0, .int i0, .int i0, .int i1]) (rest := []) ⟨hx, hb, hml, hown, hts⟩ (c_X2_isBad_noP l D cI mo m1 m2 m3 m4 s.heap.size th mn hf i0 i0 i0 i1 (by rcases gb with h | h <;> simp [h])) (cwV 4 hts gX2_digits_X2_isBad rfl rfl rfl (by decide +kernel) ⟨Nat.le_of_ble_eq_true rfl, Nat.le_of_ble_eq_true rfl⟩) ⟨ny_blind, va_recv hK hP (ci := 4) (q0 := 0) rfl rfl, fun U hU hW => ⟨rfl, ny_preU hE hP hK hD hS hA [0, 1] rfl (by decide) rfl [0] rfl U hU hW⟩⟩ rfl rfl hl.1 rfl (lv_room (Nat.le_of_ble_eq_true rfl)) dX2_digits_5 ⟨Nat.le_of_ble_eq_true rfl, Nat.le_of_ble_eq_true rfl⟩) (fun r_5 u H locs hw_5 hP hD hS => ?_)
  have hP : va_P D vwCl [(m3, .inl (cI, 16, .inl mr)), (m4, .inl (cI, 16, .inl mt)), (mo, .inr (4, [.int 1, .ref m1, .ref m2, .ref m3, .ref m4, .int mn])), (m1, .inl (cI, 12, .inl hf))] H := hP
  have hD : va_D A [(m3, .inl (cI, 16, .inl mr)), (m4, .inl (cI, 16, .inl mt)), (mo, .inr (4, [.int 1, .ref m1, .ref m2, .ref m3, .ref m4, .int mn])), (m1, .inl (cI, 12, .inl hf))] := hD
  have hw_5 : r_5 = 1 := hw_5
  subst hw_5
  refine lv_if_eq (tgt := 13) hx hb dX2_digits_8 (by decide) (fun c_8 => absurd c_8 (show ¬ ((1 : Int32) = 0) by  decide)) (fun c_8 => ?_)
  refine lv_iconst (v := 0) hx hb dX2_digits_11 (by decide) ?_
  have hP9 := hP.sub (ws' := [(mo, .inr (4, [.int 1, .ref m1, .ref m2, .ref m3, .ref m4, .int mn])), (m1, .inl (cI, 12, .inl hf)), (m3, .inl (cI, 16, .inl mr)), (m4, .inl (cI, 16, .inl mt))]) [2, 3, 0, 1] rfl
  have hD9 := hD.sub (ws' := [(mo, .inr (4, [.int 1, .ref m1, .ref m2, .ref m3, .ref m4, .int mn])), (m1, .inl (cI, 12, .inl hf)), (m3, .inl (cI, 16, .inl mr)), (m4, .inl (cI, 16, .inl mt))]) [2, 3, 0, 1] (by decide) rfl
  exact W.iret (v := 0) hx hb hr (fun t ht hW => ⟨⟨0, (), rfl, (rfl), by rw [ht]; exact hP9, va_K.moved hW.alike hK, hD9⟩, hS.F ht⟩) hS.2.2 dX2_digits_12
set_option maxHeartbeats 4000000 in
set_option maxRecDepth 100000 in
theorem c_X2_digits_no0 (l : Launch) (D : va_G) (cI : ClassId) (mo : Nat) (m1 : Nat) (m2 : Nat) (m3 : Nat) (m4 : Nat) (sz : Nat) (th : Int32) (mn : Int32) (hf : Nat → Int32) (mr : Nat → Int32) (mt : Nat → Int32) (i0 : Int32) (i1 : Int32) (gp0 : vp_in i0 12) (gp1 : vp_in i1 12) (g0 : hf i1.toNatClampNeg = 0) : Met l yX2_digits wsX2_digits ({ frames := 2, cells := 0, slots := 0, locals := 46 }) (va_Pc [.ref mo, .int i0, .int i1] (ny_pre D [(cI, .int)] [(mo, .inr (4, [.int th, .ref m1, .ref m2, .ref m3, .ref m4, .int mn])), (m1, .inl (cI, 12, .inl hf)), (m3, .inl (cI, 16, .inl mr)), (m4, .inl (cI, 16, .inl mt))] sz)) (va_Qi (fun (r : Int32) (u : Unit) => r = 0) (fun (u : Unit) t => ny_at D [(cI, .int)] (va_A [(mo, .inr (4, [.int th, .ref m1, .ref m2, .ref m3, .ref m4, .int mn])), (m1, .inl (cI, 12, .inl hf)), (m3, .inl (cI, 16, .inl mr)), (m4, .inl (cI, 16, .inl mt))] sz) [(mo, .inr (4, [.int 2, .ref m1, .ref m2, .ref m3, .ref m4, .int mn])), (m1, .inl (cI, 12, .inl hf)), (m3, .inl (cI, 16, .inl mr)), (m4, .inl (cI, 16, .inl mt))] t) (va_A [(mo, .inr (4, [.int th, .ref m1, .ref m2, .ref m3, .ref m4, .int mn])), (m1, .inl (cI, 12, .inl hf)), (m3, .inl (cI, 16, .inl mr)), (m4, .inl (cI, 16, .inl mt))] sz)) 0 0 (va_A [(mo, .inr (4, [.int th, .ref m1, .ref m2, .ref m3, .ref m4, .int mn])), (m1, .inl (cI, 12, .inl hf)), (m3, .inl (cI, 16, .inl mr)), (m4, .inl (cI, 16, .inl mt))] sz) := by
  refine Met.ofW (cc := cX2_digits) (maxL := 4) (ret := (some .int)) (by decide) rfl ?_
  intro p e s m args below meth c s₁ B hml hv
  obtain ⟨rfl, hsz, hP, hK, hD0, hE⟩ := hv
  have hx := B.exec
  have hb := B.bytes
  have hr := B.returns
  have hts := atoms_spec (ws := wsX2_digits) B.pre
  have hown : s.vm.findClass RX2 = some m.cls := findClass_of_methodNamed B.named
  have hlocks := B.notSynchronized
  subst hsz
  have hD := hD0.self (sz := s.heap.size)
  generalize hAe : va_A [(mo, .inr (4, [.int th, .ref m1, .ref m2, .ref m3, .ref m4, .int mn])), (m1, .inl (cI, 12, .inl hf)), (m3, .inl (cI, 16, .inl mr)), (m4, .inl (cI, 16, .inl mt))] s.heap.size = A at hD hE ⊢
  have hA : ∀ q : Nat, s.heap.size ≤ q → A q := fun q h => by rw [← hAe]; exact Or.inr h
  have hS : va_S A s.heap s.heap [] := va_S.rf
  have hl := lv_entry ([.ref mo, .int i0, .int i1]) (n := 4) (Nat.le_of_ble_eq_true rfl)
  rw [lg_entry_eq]
  generalize (lg_sl ([.ref mo, .int i0, .int i1]) ++ List.replicate (4 - (lg_sl ([.ref mo, .int i0, .int i1])).length) Slot.unset).toArray = ls at hl ⊢
  have hl : lv_has ls 4 [(0, .ref mo), (1, .int i0), (2, .int i1)] := hl
  refine lv_aload_n hx hb dX2_digits_0 rfl (lv_at hl 0 rfl) ?_
  refine lv_iload_n hx hb dX2_digits_1 rfl (lv_at hl 1 rfl) ?_
  refine lv_iload_n hx hb dX2_digits_2 rfl (lv_at hl 1 rfl) ?_
  refine lv_iload_n hx hb dX2_digits_3 rfl (lv_at hl 1 rfl) ?_
  refine lv_iload_n hx hb dX2_digits_4 rfl (lv_at hl 2 rfl) ?_
  refine ny_i (wc := [(mo, .inr (4, [.int th, .ref m1, .ref m2, .ref m3, .ref m4, .int mn])), (m1, .inl (cI, 12, .inl hf))]) (wr := [(m3, .inl (cI, 16, .inl mr)), (m4, .inl (cI, 16, .inl mt))]) hP hD hS hA [0, 1] [2, 3] rfl rfl (by decide) (by decide) (va_runV (As := [.int i0, .int i0, .int i0, .int i1]) (rest := []) ⟨hx, hb, hml, hown, hts⟩ (c_X2_isBad_no0 l D cI mo m1 m2 m3 m4 s.heap.size th mn hf i0 i0 i0 i1 (by assumption) (by assumption) (by assumption) (by assumption) (by assumption)) (cwV 4 hts gX2_digits_X2_isBad rfl rfl rfl (by decide +kernel) ⟨Nat.le_of_ble_eq_true rfl, Nat.le_of_ble_eq_true rfl⟩) ⟨ny_blind, va_recv hK hP (ci := 4) (q0 := 0) rfl rfl, fun U hU hW => ⟨rfl, ny_preU hE hP hK hD hS hA [0, 1] rfl (by decide) rfl [0] rfl U hU hW⟩⟩ rfl rfl hl.1 rfl (lv_room (Nat.le_of_ble_eq_true rfl)) dX2_digits_5 ⟨Nat.le_of_ble_eq_true rfl, Nat.le_of_ble_eq_true rfl⟩) (fun r_5 u H locs hw_5 hP hD hS => ?_)
  have hP : va_P D vwCl [(m3, .inl (cI, 16, .inl mr)), (m4, .inl (cI, 16, .inl mt)), (mo, .inr (4, [.int 2, .ref m1, .ref m2, .ref m3, .ref m4, .int mn])), (m1, .inl (cI, 12, .inl hf))] H := hP
  have hD : va_D A [(m3, .inl (cI, 16, .inl mr)), (m4, .inl (cI, 16, .inl mt)), (mo, .inr (4, [.int 2, .ref m1, .ref m2, .ref m3, .ref m4, .int mn])), (m1, .inl (cI, 12, .inl hf))] := hD
  have hw_5 : r_5 = 1 := hw_5
  subst hw_5
  refine lv_if_eq (tgt := 13) hx hb dX2_digits_8 (by decide) (fun c_8 => absurd c_8 (show ¬ ((1 : Int32) = 0) by  decide)) (fun c_8 => ?_)
  refine lv_iconst (v := 0) hx hb dX2_digits_11 (by decide) ?_
  have hP9 := hP.sub (ws' := [(mo, .inr (4, [.int 2, .ref m1, .ref m2, .ref m3, .ref m4, .int mn])), (m1, .inl (cI, 12, .inl hf)), (m3, .inl (cI, 16, .inl mr)), (m4, .inl (cI, 16, .inl mt))]) [2, 3, 0, 1] rfl
  have hD9 := hD.sub (ws' := [(mo, .inr (4, [.int 2, .ref m1, .ref m2, .ref m3, .ref m4, .int mn])), (m1, .inl (cI, 12, .inl hf)), (m3, .inl (cI, 16, .inl mr)), (m4, .inl (cI, 16, .inl mt))]) [2, 3, 0, 1] (by decide) rfl
  exact W.iret (v := 0) hx hb hr (fun t ht hW => ⟨⟨0, (), rfl, (rfl), by rw [ht]; exact hP9, va_K.moved hW.alike hK, hD9⟩, hS.F ht⟩) hS.2.2 dX2_digits_12
theorem in_X2_digit_X2 : ∀ w ∈ wsX20, w ∈ wsX2_digit := (fun _ h => List.mem_cons_of_mem _ (List.mem_append_left _ (List.mem_append_right _ h)))
set_option maxHeartbeats 4000000 in
set_option maxRecDepth 100000 in
theorem c_X2_digit (l : Launch) (D : va_G) (cI : ClassId) (mo : Nat) (m1 : Nat) (m2 : Nat) (m3 : Nat) (m4 : Nat) (sz : Nat) (th : Int32) (mn : Int32) (mr : Nat → Int32) (i0 : Int32) (gi0 : 0 ≤ i0.toInt) (gi1 : i0 < mn) (g7 : mn.toInt ≤ 7) : Met l yX2_digit wsX2_digit ({ frames := 1, cells := 0, slots := 0, locals := 22 }) (va_Pc [.ref mo, .int i0] (ny_pre D [(cI, .int)] [(mo, .inr (4, [.int th, .ref m1, .ref m2, .ref m3, .ref m4, .int mn])), (m3, .inl (cI, 16, .inl mr))] sz)) (va_Qi (fun (r : Int32) (u : Unit) => r = mr i0.toNatClampNeg) (fun (u : Unit) t => ny_at D [(cI, .int)] (va_A [(mo, .inr (4, [.int th, .ref m1, .ref m2, .ref m3, .ref m4, .int mn])), (m3, .inl (cI, 16, .inl mr))] sz) [(mo, .inr (4, [.int 0, .ref m1, .ref m2, .ref m3, .ref m4, .int mn])), (m3, .inl (cI, 16, .inl mr))] t) (va_A [(mo, .inr (4, [.int th, .ref m1, .ref m2, .ref m3, .ref m4, .int mn])), (m3, .inl (cI, 16, .inl mr))] sz)) 0 0 (va_A [(mo, .inr (4, [.int th, .ref m1, .ref m2, .ref m3, .ref m4, .int mn])), (m3, .inl (cI, 16, .inl mr))] sz) := by
  refine Met.ofW (cc := cX2_digit) (maxL := 2) (ret := (some .int)) (by decide) rfl ?_
  intro p e s m args below meth c s₁ B hml hv
  obtain ⟨rfl, hsz, hP, hK, hD0, hE⟩ := hv
  have hx := B.exec
  have hb := B.bytes
  have hr := B.returns
  have hts := atoms_spec (ws := wsX2_digit) B.pre
  have hown : s.vm.findClass RX2 = some m.cls := findClass_of_methodNamed B.named
  have hlocks := B.notSynchronized
  subst hsz
  have hD := hD0.self (sz := s.heap.size)
  generalize hAe : va_A [(mo, .inr (4, [.int th, .ref m1, .ref m2, .ref m3, .ref m4, .int mn])), (m3, .inl (cI, 16, .inl mr))] s.heap.size = A at hD hE ⊢
  have hA : ∀ q : Nat, s.heap.size ≤ q → A q := fun q h => by rw [← hAe]; exact Or.inr h
  have hS : va_S A s.heap s.heap [] := va_S.rf
  have hl := lv_entry ([.ref mo, .int i0]) (n := 2) (Nat.le_of_ble_eq_true rfl)
  rw [lg_entry_eq]
  generalize (lg_sl ([.ref mo, .int i0]) ++ List.replicate (2 - (lg_sl ([.ref mo, .int i0])).length) Slot.unset).toArray = ls at hl ⊢
  have hl : lv_has ls 2 [(0, .ref mo), (1, .int i0)] := hl
  refine lv_aload_n hx hb dX2_digit_0 rfl (lv_at hl 0 rfl) ?_
  refine lv_iload_n hx hb dX2_digit_1 rfl (lv_at hl 1 rfl) ?_
  refine lv_if_lt (tgt := 13) hx hb dX2_digit_2 (by decide) (fun c_2 => absurd c_2 (show ¬ ((i0 : Int32) < 0) by  rw [fa_lt, ny_z0]; omega)) (fun c_2 => ?_)
  refine lv_iload_n hx hb dX2_digit_5 rfl (lv_at hl 1 rfl) ?_
  refine lv_aload_n hx hb dX2_digit_6 rfl (lv_at hl 0 rfl) ?_
  refine va_get (D := D) (ci := 4) (v := .int mn) (C := RX2) (T := TX2) (N := 6) hx hb hts in_X2_digit_X2 hown hK hP 0 rfl rfl 5 (by decide) (hts (.fieldLink RX2 88 "NearestclockModel" "many" "I") (List.mem_of_getElem? (i := 1) rfl)) (fun _ h9 => h9) rfl dX2_digit_7 ?_
  refine lv_icmp_lt (tgt := 17) hx hb dX2_digit_10 (by decide) (fun c_10 => ?_) (fun c_10 => absurd (show (i0 : Int32) < mn from gi1) c_10)
  refine lv_iconst (v := 0) hx hb dX2_digit_17 (by decide) ?_
  refine lv_iconst (v := 1) hx hb dX2_digit_18 (by decide) ?_
  refine ny_i (wc := [(mo, .inr (4, [.int th, .ref m1, .ref m2, .ref m3, .ref m4, .int mn]))]) (wr := [(m3, .inl (cI, 16, .inl mr))]) hP hD hS hA [0] [1] rfl rfl (by decide) (by decide) (va_runV (As := [.int 0, .int 1]) (rest := []) ⟨hx, hb, hml, hown, hts⟩ (c_X2_isThrown_0 l D mo m1 m2 m3 m4 s.heap.size th mn 1) (cwV 2 hts gX2_digit_X2_isThrown rfl rfl rfl (by decide +kernel) ⟨Nat.le_of_ble_eq_true rfl, Nat.le_of_ble_eq_true rfl⟩) ⟨ny_blind, va_recv hK hP (ci := 4) (q0 := 0) rfl rfl, fun U hU hW => ⟨rfl, ny_preU hE hP hK hD hS hA [0] rfl (by decide) rfl [] rfl U hU hW⟩⟩ rfl rfl hl.1 rfl (lv_room (Nat.le_of_ble_eq_true rfl)) dX2_digit_19 ⟨Nat.le_of_ble_eq_true rfl, Nat.le_of_ble_eq_true rfl⟩) (fun r_19 u H locs hw_19 hP hD hS => ?_)
  have hP : va_P D vwCl [(m3, .inl (cI, 16, .inl mr)), (mo, .inr (4, [.int 0, .ref m1, .ref m2, .ref m3, .ref m4, .int mn]))] H := hP
  have hD : va_D A [(m3, .inl (cI, 16, .inl mr)), (mo, .inr (4, [.int 0, .ref m1, .ref m2, .ref m3, .ref m4, .int mn]))] := hD
  have hw_19 : r_19 = 0 := hw_19
  subst hw_19
  refine lv_if_eq (tgt := 29) hx hb dX2_digit_22 (by decide) (fun c_22 => ?_) (fun c_22 => absurd (show (0 : Int32) = 0 by  decide) c_22)
  refine lv_aload_n hx hb dX2_digit_29 rfl (lv_at hl 0 rfl) ?_
  refine va_get (D := D) (ci := 4) (v := .ref m3) (C := RX2) (T := TX2) (N := 6) hx hb hts in_X2_digit_X2 hown hK hP 1 rfl rfl 3 (by decide) (hts (.fieldLink RX2 17 "NearestclockModel" "row" "[I") (List.mem_of_getElem? (i := 2) rfl)) (fun _ h9 => h9) rfl dX2_digit_30 ?_
  refine lv_iload_n hx hb dX2_digit_33 rfl (lv_at hl 1 rfl) ?_
  refine va_iald hx hb hK hP 0 0 rfl rfl (vp_in_iff.mpr ⟨gi0, by rw [fa_lt] at gi1; omega⟩) dX2_digit_34 ?_
  have hP9 := hP.sub (ws' := [(mo, .inr (4, [.int 0, .ref m1, .ref m2, .ref m3, .ref m4, .int mn])), (m3, .inl (cI, 16, .inl mr))]) [1, 0] rfl
  have hD9 := hD.sub (ws' := [(mo, .inr (4, [.int 0, .ref m1, .ref m2, .ref m3, .ref m4, .int mn])), (m3, .inl (cI, 16, .inl mr))]) [1, 0] (by decide) rfl
  exact W.iret (v := mr i0.toNatClampNeg) hx hb hr (fun t ht hW => ⟨⟨mr i0.toNatClampNeg, (), rfl, (rfl), by rw [ht]; exact hP9, va_K.moved hW.alike hK, hD9⟩, hS.F ht⟩) hS.2.2 dX2_digit_35
set_option maxHeartbeats 4000000 in
set_option maxRecDepth 100000 in
theorem c_X2_digit_noP (l : Launch) (D : va_G) (cI : ClassId) (mo : Nat) (m1 : Nat) (m2 : Nat) (m3 : Nat) (m4 : Nat) (sz : Nat) (th : Int32) (mn : Int32) (mr : Nat → Int32) (i0 : Int32) (gi : ¬ (0 ≤ i0.toInt ∧ i0 < mn)) : Met l yX2_digit wsX2_digit ({ frames := 1, cells := 0, slots := 0, locals := 22 }) (va_Pc [.ref mo, .int i0] (ny_pre D [(cI, .int)] [(mo, .inr (4, [.int th, .ref m1, .ref m2, .ref m3, .ref m4, .int mn])), (m3, .inl (cI, 16, .inl mr))] sz)) (va_Qi (fun (r : Int32) (u : Unit) => r = 0) (fun (u : Unit) t => ny_at D [(cI, .int)] (va_A [(mo, .inr (4, [.int th, .ref m1, .ref m2, .ref m3, .ref m4, .int mn])), (m3, .inl (cI, 16, .inl mr))] sz) [(mo, .inr (4, [.int 1, .ref m1, .ref m2, .ref m3, .ref m4, .int mn])), (m3, .inl (cI, 16, .inl mr))] t) (va_A [(mo, .inr (4, [.int th, .ref m1, .ref m2, .ref m3, .ref m4, .int mn])), (m3, .inl (cI, 16, .inl mr))] sz)) 0 0 (va_A [(mo, .inr (4, [.int th, .ref m1, .ref m2, .ref m3, .ref m4, .int mn])), (m3, .inl (cI, 16, .inl mr))] sz) := by
  refine Met.ofW (cc := cX2_digit) (maxL := 2) (ret := (some .int)) (by decide) rfl ?_
  intro p e s m args below meth c s₁ B hml hv
  obtain ⟨rfl, hsz, hP, hK, hD0, hE⟩ := hv
  have hx := B.exec
  have hb := B.bytes
  have hr := B.returns
  have hts := atoms_spec (ws := wsX2_digit) B.pre
  have hown : s.vm.findClass RX2 = some m.cls := findClass_of_methodNamed B.named
  have hlocks := B.notSynchronized
  subst hsz
  have hD := hD0.self (sz := s.heap.size)
  generalize hAe : va_A [(mo, .inr (4, [.int th, .ref m1, .ref m2, .ref m3, .ref m4, .int mn])), (m3, .inl (cI, 16, .inl mr))] s.heap.size = A at hD hE ⊢
  have hA : ∀ q : Nat, s.heap.size ≤ q → A q := fun q h => by rw [← hAe]; exact Or.inr h
  have hS : va_S A s.heap s.heap [] := va_S.rf
  have hl := lv_entry ([.ref mo, .int i0]) (n := 2) (Nat.le_of_ble_eq_true rfl)
  rw [lg_entry_eq]
  generalize (lg_sl ([.ref mo, .int i0]) ++ List.replicate (2 - (lg_sl ([.ref mo, .int i0])).length) Slot.unset).toArray = ls at hl ⊢
  have hl : lv_has ls 2 [(0, .ref mo), (1, .int i0)] := hl
  refine lv_aload_n hx hb dX2_digit_0 rfl (lv_at hl 0 rfl) ?_
  refine lv_iload_n hx hb dX2_digit_1 rfl (lv_at hl 1 rfl) ?_
  refine lv_if_lt (tgt := 13) hx hb dX2_digit_2 (by decide) (fun c_2 => ?_) (fun c_2 => ?_)
  · refine lv_iconst (v := 1) hx hb dX2_digit_13 (by decide) ?_
    refine lv_goto (tgt := 18) hx hb dX2_digit_14 (by decide) ?_
    refine lv_iconst (v := 1) hx hb dX2_digit_18 (by decide) ?_
    refine ny_i (wc := [(mo, .inr (4, [.int th, .ref m1, .ref m2, .ref m3, .ref m4, .int mn]))]) (wr := [(m3, .inl (cI, 16, .inl mr))]) hP hD hS hA [0] [1] rfl rfl (by decide) (by decide) (va_runV (As := [.int 1, .int 1]) (rest := []) ⟨hx, hb, hml, hown, hts⟩ (c_X2_isThrown_1 l D mo m1 m2 m3 m4 s.heap.size th mn 1) (cwV 2 hts gX2_digit_X2_isThrown rfl rfl rfl (by decide +kernel) ⟨Nat.le_of_ble_eq_true rfl, Nat.le_of_ble_eq_true rfl⟩) ⟨ny_blind, va_recv hK hP (ci := 4) (q0 := 0) rfl rfl, fun U hU hW => ⟨rfl, ny_preU hE hP hK hD hS hA [0] rfl (by decide) rfl [] rfl U hU hW⟩⟩ rfl rfl hl.1 rfl (lv_room (Nat.le_of_ble_eq_true rfl)) dX2_digit_19 ⟨Nat.le_of_ble_eq_true rfl, Nat.le_of_ble_eq_true rfl⟩) (fun r_19 u H locs hw_19 hP hD hS => ?_)
    have hP : va_P D vwCl [(m3, .inl (cI, 16, .inl mr)), (mo, .inr (4, [.int 1, .ref m1, .ref m2, .ref m3, .ref m4, .int mn]))] H := hP
    have hD : va_D A [(m3, .inl (cI, 16, .inl mr)), (mo, .inr (4, [.int 1, .ref m1, .ref m2, .ref m3, .ref m4, .int mn]))] := hD
    have hw_19 : r_19 = 1 := hw_19
    subst hw_19
    refine lv_if_eq (tgt := 29) hx hb dX2_digit_22 (by decide) (fun c_22 => absurd c_22 (show ¬ ((1 : Int32) = 0) by  decide)) (fun c_22 => ?_)
    refine lv_iconst (v := 0) hx hb dX2_digit_25 (by decide) ?_
    refine lv_goto (tgt := 35) hx hb dX2_digit_26 (by decide) ?_
    have hP9 := hP.sub (ws' := [(mo, .inr (4, [.int 1, .ref m1, .ref m2, .ref m3, .ref m4, .int mn])), (m3, .inl (cI, 16, .inl mr))]) [1, 0] rfl
    have hD9 := hD.sub (ws' := [(mo, .inr (4, [.int 1, .ref m1, .ref m2, .ref m3, .ref m4, .int mn])), (m3, .inl (cI, 16, .inl mr))]) [1, 0] (by decide) rfl
    exact W.iret (v := 0) hx hb hr (fun t ht hW => ⟨⟨0, (), rfl, (rfl), by rw [ht]; exact hP9, va_K.moved hW.alike hK, hD9⟩, hS.F ht⟩) hS.2.2 dX2_digit_35
  · refine lv_iload_n hx hb dX2_digit_5 rfl (lv_at hl 1 rfl) ?_
    refine lv_aload_n hx hb dX2_digit_6 rfl (lv_at hl 0 rfl) ?_
    refine va_get (D := D) (ci := 4) (v := .int mn) (C := RX2) (T := TX2) (N := 6) hx hb hts in_X2_digit_X2 hown hK hP 0 rfl rfl 5 (by decide) (hts (.fieldLink RX2 88 "NearestclockModel" "many" "I") (List.mem_of_getElem? (i := 1) rfl)) (fun _ h9 => h9) rfl dX2_digit_7 ?_
    refine lv_icmp_lt (tgt := 17) hx hb dX2_digit_10 (by decide) (fun c_10 => absurd c_10 (show ¬ ((i0 : Int32) < mn) from fun q => gi ⟨by rw [fa_lt, ny_z0] at c_2; omega, q⟩)) (fun c_10 => ?_)
    refine lv_iconst (v := 1) hx hb dX2_digit_13 (by decide) ?_
    refine lv_goto (tgt := 18) hx hb dX2_digit_14 (by decide) ?_
    refine lv_iconst (v := 1) hx hb dX2_digit_18 (by decide) ?_
    refine ny_i (wc := [(mo, .inr (4, [.int th, .ref m1, .ref m2, .ref m3, .ref m4, .int mn]))]) (wr := [(m3, .inl (cI, 16, .inl mr))]) hP hD hS hA [0] [1] rfl rfl (by decide) (by decide) (va_runV (As := [.int 1, .int 1]) (rest := []) ⟨hx, hb, hml, hown, hts⟩ (c_X2_isThrown_1 l D mo m1 m2 m3 m4 s.heap.size th mn 1) (cwV 2 hts gX2_digit_X2_isThrown rfl rfl rfl (by decide +kernel) ⟨Nat.le_of_ble_eq_true rfl, Nat.le_of_ble_eq_true rfl⟩) ⟨ny_blind, va_recv hK hP (ci := 4) (q0 := 0) rfl rfl, fun U hU hW => ⟨rfl, ny_preU hE hP hK hD hS hA [0] rfl (by decide) rfl [] rfl U hU hW⟩⟩ rfl rfl hl.1 rfl (lv_room (Nat.le_of_ble_eq_true rfl)) dX2_digit_19 ⟨Nat.le_of_ble_eq_true rfl, Nat.le_of_ble_eq_true rfl⟩) (fun r_19 u H locs hw_19 hP hD hS => ?_)
    have hP : va_P D vwCl [(m3, .inl (cI, 16, .inl mr)), (mo, .inr (4, [.int 1, .ref m1, .ref m2, .ref m3, .ref m4, .int mn]))] H := hP
    have hD : va_D A [(m3, .inl (cI, 16, .inl mr)), (mo, .inr (4, [.int 1, .ref m1, .ref m2, .ref m3, .ref m4, .int mn]))] := hD
    have hw_19 : r_19 = 1 := hw_19
    subst hw_19
    refine lv_if_eq (tgt := 29) hx hb dX2_digit_22 (by decide) (fun c_22 => absurd c_22 (show ¬ ((1 : Int32) = 0) by  decide)) (fun c_22 => ?_)
    refine lv_iconst (v := 0) hx hb dX2_digit_25 (by decide) ?_
    refine lv_goto (tgt := 35) hx hb dX2_digit_26 (by decide) ?_
    have hP9 := hP.sub (ws' := [(mo, .inr (4, [.int 1, .ref m1, .ref m2, .ref m3, .ref m4, .int mn])), (m3, .inl (cI, 16, .inl mr))]) [1, 0] rfl
    have hD9 := hD.sub (ws' := [(mo, .inr (4, [.int 1, .ref m1, .ref m2, .ref m3, .ref m4, .int mn])), (m3, .inl (cI, 16, .inl mr))]) [1, 0] (by decide) rfl
    exact W.iret (v := 0) hx hb hr (fun t ht hW => ⟨⟨0, (), rfl, (rfl), by rw [ht]; exact hP9, va_K.moved hW.alike hK, hD9⟩, hS.F ht⟩) hS.2.2 dX2_digit_35
theorem in_X2_line_X2 : ∀ w ∈ wsX20, w ∈ wsX2_line := (fun _ h => List.mem_cons_of_mem _ (List.mem_append_left _ (List.mem_append_right _ h)))
set_option maxHeartbeats 4000000 in
set_option maxRecDepth 100000 in
theorem c_X2_line (l : Launch) (D : va_G) (cI : ClassId) (mo : Nat) (m1 : Nat) (m2 : Nat) (m3 : Nat) (m4 : Nat) (sz : Nat) (th : Int32) (mn : Int32) (mr : Nat → Int32) (a : Int32) (i0 : Int32) (i1 : Int32) (i2 : Int32) (gi0 : 0 ≤ i0.toInt) (gi1 : i0 ≤ mn) (g7 : mn.toInt ≤ 7) (he : f_sh mr a i1 1 = (i1, i2)) : Met l yX2_line wsX2_line ({ frames := 0, cells := 0, slots := 0, locals := 0 }) (va_Pc [.ref mo, .int i0, .int i1, .int i2] (ny_pre D [(cI, .int)] [(mo, .inr (4, [.int th, .ref m1, .ref m2, .ref m3, .ref m4, .int mn])), (m3, .inl (cI, 16, .inl mr))] sz)) (vp_Si (fun r => r = (f_sh mr a i1 i0.toNatClampNeg).2)) 0 0 (fun _ => False) := by
  refine Met.ofW (cc := cX2_line) (maxL := 8) (ret := (some .int)) (by decide) rfl ?_
  intro p e s m args below meth c s₁ B hml hv
  obtain ⟨rfl, hsz, hP, hK, hD0, hE⟩ := hv
  have hx := B.exec
  have hb := B.bytes
  have hr := B.returns
  have hts := atoms_spec (ws := wsX2_line) B.pre
  have hown : s.vm.findClass RX2 = some m.cls := findClass_of_methodNamed B.named
  have hlocks := B.notSynchronized
  subst hsz
  have hD := hD0.self (sz := s.heap.size)
  generalize hAe : va_A [(mo, .inr (4, [.int th, .ref m1, .ref m2, .ref m3, .ref m4, .int mn])), (m3, .inl (cI, 16, .inl mr))] s.heap.size = A at hD hE
  have hA : ∀ q : Nat, s.heap.size ≤ q → A q := fun q h => by rw [← hAe]; exact Or.inr h
  have hS : va_S A s.heap s.heap [] := va_S.rf
  have hl := lv_entry ([.ref mo, .int i0, .int i1, .int i2]) (n := 8) (Nat.le_of_ble_eq_true rfl)
  rw [lg_entry_eq]
  generalize (lg_sl ([.ref mo, .int i0, .int i1, .int i2]) ++ List.replicate (8 - (lg_sl ([.ref mo, .int i0, .int i1, .int i2])).length) Slot.unset).toArray = ls at hl ⊢
  have hl : lv_has ls 8 [(0, .ref mo), (1, .int i0), (2, .int i1), (3, .int i2)] := hl
  refine lv_iload_n hx hb dX2_line_0 rfl (lv_at hl 2 rfl) ?_
  refine ny_ti (x2 := (f_sh mr a i1 1).1) (by rw [he]) ?_
  refine lv_istore (lv' := [(4, .int ((f_sh mr a i1 1).1)), (0, .ref mo), (1, .int i0), (2, .int i1), (3, .int i2)]) hx hb dX2_line_1 hl (by decide) rfl (fun ls hl => ?_)
  refine lv_iload_n hx hb dX2_line_3 rfl (lv_at hl 4 rfl) ?_
  refine ny_ti (x2 := (f_sh mr a i1 1).2) (by rw [he]) ?_
  refine lv_istore (lv' := [(5, .int ((f_sh mr a i1 1).2)), (4, .int ((f_sh mr a i1 1).1)), (0, .ref mo), (1, .int i0), (2, .int i1), (3, .int i2)]) hx hb dX2_line_4 hl (by decide) rfl (fun ls hl => ?_)
  refine lv_iconst (v := 1) hx hb dX2_line_6 (by decide) ?_
  refine ny_ti (x2 := nI 1) (rfl) ?_
  refine lv_istore (lv' := [(6, .int (nI 1)), (5, .int ((f_sh mr a i1 1).2)), (4, .int ((f_sh mr a i1 1).1)), (0, .ref mo), (1, .int i0), (2, .int i1), (3, .int i2)]) hx hb dX2_line_7 hl (by decide) rfl (fun ls hl => ?_)
  refine ny_lp 9 8 (fun u : Nat => 1 ≤ u ∧ (u ≤ i0.toNatClampNeg ∨ u = 1)) (fun u => i0.toNatClampNeg - u) (fun u => [(0, .ref mo), (1, .int i0), (2, .int i1), (3, .int i2), (4, .int ((f_sh mr a i1 u).1)), (5, .int ((f_sh mr a i1 u).2)), (6, .int (nI u))]) (fun u hu ih ls hl => ?_) 1 (show 1 ≤ 1 ∧ (1 ≤ i0.toNatClampNeg ∨ 1 = 1) from ⟨Nat.le_refl 1, Or.inr rfl⟩) (lv_sub hl [3, 4, 5, 6, 2, 1, 0] rfl)
  obtain ⟨k, rfl⟩ : ∃ z, z = u := ⟨_, rfl⟩
  obtain ⟨hk1, hk⟩ : 1 ≤ k ∧ (k ≤ i0.toNatClampNeg ∨ k = 1) := hu
  have hl : lv_has ls 8 [(0, .ref mo), (1, .int i0), (2, .int i1), (3, .int i2), (4, .int ((f_sh mr a i1 k).1)), (5, .int ((f_sh mr a i1 k).2)), (6, .int (nI k))] := hl
  have hk7 : k ≤ 7 := by have := n_cl gi0; rw [fa_le] at gi1; omega
  refine lv_iload hx hb dX2_line_9 (lv_at hl 6 rfl) ?_
  refine lv_iload_n hx hb dX2_line_11 rfl (lv_at hl 1 rfl) ?_
  refine lv_icmp_ge (tgt := 44) hx hb dX2_line_12 (by decide) (fun c_12 => ?_) (fun c_12 => ?_)
  · refine lv_iload_n hx hb dX2_line_44 rfl (lv_at hl 1 rfl) ?_
    refine lv_if_ne (tgt := 52) hx hb dX2_line_45 (by decide) (fun c_45 => ?_) (fun c_45 => ?_)
    · refine lv_iload hx hb dX2_line_52 (lv_at hl 5 rfl) ?_
      exact W.iret (v := (f_sh mr a i1 k).2) hx hb hr (fun t ht hW => ⟨(f_sh mr a i1 k).2, rfl, (by have z := n_cl gi0; have z2 := ny_nz0 c_45; have hke : k = i0.toNatClampNeg := (by rw [fa_le, nI_toInt (by omega)] at c_12; omega); rw [hke]), ht⟩) (fun q hq => absurd hq List.not_mem_nil) dX2_line_54
    · refine lv_iload_n hx hb dX2_line_48 rfl (lv_at hl 2 rfl) ?_
      refine lv_goto (tgt := 54) hx hb dX2_line_49 (by decide) ?_
      exact W.iret (v := i1) hx hb hr (fun t ht hW => ⟨i1, rfl, (by rw [c_45]; rfl), ht⟩) (fun q hq => absurd hq List.not_mem_nil) dX2_line_54
  · have hk2 := n_shC hk7 gi0 c_12
    refine lv_aload_n hx hb dX2_line_15 rfl (lv_at hl 0 rfl) ?_
    refine va_get (D := D) (ci := 4) (v := .ref m3) (C := RX2) (T := TX2) (N := 6) hx hb hts in_X2_line_X2 hown hK hP 0 rfl rfl 3 (by decide) (hts (.fieldLink RX2 17 "NearestclockModel" "row" "[I") (List.mem_of_getElem? (i := 1) rfl)) (fun _ h9 => h9) rfl dX2_line_16 ?_
    refine lv_iload hx hb dX2_line_19 (lv_at hl 6 rfl) ?_
    refine va_iald hx hb hK hP 1 0 rfl rfl (vp_in_nI (by omega) (by decide)) dX2_line_21 ?_
    refine lv_iload hx hb dX2_line_22 (lv_at hl 5 rfl) ?_
    refine lv_imul hx hb dX2_line_24 ?_
    refine lv_iload hx hb dX2_line_25 (lv_at hl 4 rfl) ?_
    refine lv_iadd hx hb dX2_line_27 ?_
    refine ny_ti (x2 := (f_sh mr a i1 (k + 1)).2) (f_shS mr a i1 (by omega)) ?_
    refine lv_istore (lv' := [(7, .int ((f_sh mr a i1 (k + 1)).2)), (0, .ref mo), (1, .int i0), (2, .int i1), (3, .int i2), (4, .int ((f_sh mr a i1 k).1)), (5, .int ((f_sh mr a i1 k).2)), (6, .int (nI k))]) hx hb dX2_line_28 hl (by decide) rfl (fun ls hl => ?_)
    refine lv_iload hx hb dX2_line_30 (lv_at hl 6 rfl) ?_
    refine ny_ti (x2 := (f_sh mr a i1 (k + 1)).1) (rfl) ?_
    refine lv_istore (lv' := [(4, .int ((f_sh mr a i1 (k + 1)).1)), (7, .int ((f_sh mr a i1 (k + 1)).2)), (0, .ref mo), (1, .int i0), (2, .int i1), (3, .int i2), (5, .int ((f_sh mr a i1 k).2)), (6, .int (nI k))]) hx hb dX2_line_32 hl (by decide) rfl (fun ls hl => ?_)
    refine lv_iload hx hb dX2_line_34 (lv_at hl 1 rfl) ?_
    refine lv_istore (lv' := [(5, .int ((f_sh mr a i1 (k + 1)).2)), (4, .int ((f_sh mr a i1 (k + 1)).1)), (7, .int ((f_sh mr a i1 (k + 1)).2)), (0, .ref mo), (1, .int i0), (2, .int i1), (3, .int i2), (6, .int (nI k))]) hx hb dX2_line_36 hl (by decide) rfl (fun ls hl => ?_)
    refine lv_iinc (v := nI (k + 1)) (lv' := [(6, .int (nI (k + 1))), (5, .int ((f_sh mr a i1 (k + 1)).2)), (4, .int ((f_sh mr a i1 (k + 1)).1)), (7, .int ((f_sh mr a i1 (k + 1)).2)), (0, .ref mo), (1, .int i0), (2, .int i1), (3, .int i2)]) hx hb dX2_line_38 hl (k := 7) rfl (n_incN k) (by decide) rfl (fun ls hl => ?_)
    refine lv_goto (tgt := 9) hx hb dX2_line_41 (by decide) ?_
    exact ih (k + 1) (show 1 ≤ (k + 1) ∧ ((k + 1) ≤ i0.toNatClampNeg ∨ (k + 1) = 1) from ⟨by omega, Or.inl (by omega)⟩) (show i0.toNatClampNeg - (k + 1) < i0.toNatClampNeg - k by omega) _ (lv_sub hl [4, 5, 6, 7, 2, 1, 0] rfl)
theorem in_X2_above_X2 : ∀ w ∈ wsX20, w ∈ wsX2_above := (fun _ h => List.mem_cons_of_mem _ (List.mem_append_left _ (List.mem_append_right _ h)))
set_option maxHeartbeats 4000000 in
set_option maxRecDepth 100000 in
theorem c_X2_above (l : Launch) (D : va_G) (cI : ClassId) (mo : Nat) (m1 : Nat) (m2 : Nat) (m3 : Nat) (m4 : Nat) (sz : Nat) (th : Int32) (mn : Int32) (mr : Nat → Int32) (i0 : Int32) (gi0 : 0 ≤ i0.toInt) (gi1 : i0 ≤ mn) (g7 : mn.toInt ≤ 7) : Met l yX2_above wsX2_above ({ frames := 1, cells := 0, slots := 0, locals := 27 }) (va_Pc [.ref mo, .int i0] (ny_pre D [(cI, .int)] [(mo, .inr (4, [.int th, .ref m1, .ref m2, .ref m3, .ref m4, .int mn])), (m3, .inl (cI, 16, .inl mr))] sz)) (va_Qi (fun (r : Int32) (u : Unit) => r = (f_sh mr 0 1 i0.toNatClampNeg).2) (fun (u : Unit) t => ny_at D [(cI, .int)] (va_A [(mo, .inr (4, [.int th, .ref m1, .ref m2, .ref m3, .ref m4, .int mn])), (m3, .inl (cI, 16, .inl mr))] sz) [(mo, .inr (4, [.int 0, .ref m1, .ref m2, .ref m3, .ref m4, .int mn])), (m3, .inl (cI, 16, .inl mr))] t) (va_A [(mo, .inr (4, [.int th, .ref m1, .ref m2, .ref m3, .ref m4, .int mn])), (m3, .inl (cI, 16, .inl mr))] sz)) 0 0 (va_A [(mo, .inr (4, [.int th, .ref m1, .ref m2, .ref m3, .ref m4, .int mn])), (m3, .inl (cI, 16, .inl mr))] sz) := by
  refine Met.ofW (cc := cX2_above) (maxL := 2) (ret := (some .int)) (by decide) rfl ?_
  intro p e s m args below meth c s₁ B hml hv
  obtain ⟨rfl, hsz, hP, hK, hD0, hE⟩ := hv
  have hx := B.exec
  have hb := B.bytes
  have hr := B.returns
  have hts := atoms_spec (ws := wsX2_above) B.pre
  have hown : s.vm.findClass RX2 = some m.cls := findClass_of_methodNamed B.named
  have hlocks := B.notSynchronized
  subst hsz
  have hD := hD0.self (sz := s.heap.size)
  generalize hAe : va_A [(mo, .inr (4, [.int th, .ref m1, .ref m2, .ref m3, .ref m4, .int mn])), (m3, .inl (cI, 16, .inl mr))] s.heap.size = A at hD hE ⊢
  have hA : ∀ q : Nat, s.heap.size ≤ q → A q := fun q h => by rw [← hAe]; exact Or.inr h
  have hS : va_S A s.heap s.heap [] := va_S.rf
  have hl := lv_entry ([.ref mo, .int i0]) (n := 2) (Nat.le_of_ble_eq_true rfl)
  rw [lg_entry_eq]
  generalize (lg_sl ([.ref mo, .int i0]) ++ List.replicate (2 - (lg_sl ([.ref mo, .int i0])).length) Slot.unset).toArray = ls at hl ⊢
  have hl : lv_has ls 2 [(0, .ref mo), (1, .int i0)] := hl
  refine lv_aload_n hx hb dX2_above_0 rfl (lv_at hl 0 rfl) ?_
  refine lv_iload_n hx hb dX2_above_1 rfl (lv_at hl 1 rfl) ?_
  refine lv_if_lt (tgt := 13) hx hb dX2_above_2 (by decide) (fun c_2 => absurd c_2 (show ¬ ((i0 : Int32) < 0) by  rw [fa_lt, ny_z0]; omega)) (fun c_2 => ?_)
  refine lv_iload_n hx hb dX2_above_5 rfl (lv_at hl 1 rfl) ?_
  refine lv_aload_n hx hb dX2_above_6 rfl (lv_at hl 0 rfl) ?_
  refine va_get (D := D) (ci := 4) (v := .int mn) (C := RX2) (T := TX2) (N := 6) hx hb hts in_X2_above_X2 hown hK hP 0 rfl rfl 5 (by decide) (hts (.fieldLink RX2 88 "NearestclockModel" "many" "I") (List.mem_of_getElem? (i := 1) rfl)) (fun _ h9 => h9) rfl dX2_above_7 ?_
  refine lv_icmp_le (tgt := 17) hx hb dX2_above_10 (by decide) (fun c_10 => ?_) (fun c_10 => absurd (show (i0 : Int32) ≤ mn from gi1) c_10)
  refine lv_iconst (v := 0) hx hb dX2_above_17 (by decide) ?_
  refine lv_iconst (v := 1) hx hb dX2_above_18 (by decide) ?_
  refine ny_i (wc := [(mo, .inr (4, [.int th, .ref m1, .ref m2, .ref m3, .ref m4, .int mn]))]) (wr := [(m3, .inl (cI, 16, .inl mr))]) hP hD hS hA [0] [1] rfl rfl (by decide) (by decide) (va_runV (As := [.int 0, .int 1]) (rest := []) ⟨hx, hb, hml, hown, hts⟩ (c_X2_isThrown_0 l D mo m1 m2 m3 m4 s.heap.size th mn 1) (cwV 2 hts gX2_above_X2_isThrown rfl rfl rfl (by decide +kernel) ⟨Nat.le_of_ble_eq_true rfl, Nat.le_of_ble_eq_true rfl⟩) ⟨ny_blind, va_recv hK hP (ci := 4) (q0 := 0) rfl rfl, fun U hU hW => ⟨rfl, ny_preU hE hP hK hD hS hA [0] rfl (by decide) rfl [] rfl U hU hW⟩⟩ rfl rfl hl.1 rfl (lv_room (Nat.le_of_ble_eq_true rfl)) dX2_above_19 ⟨Nat.le_of_ble_eq_true rfl, Nat.le_of_ble_eq_true rfl⟩) (fun r_19 u H locs hw_19 hP hD hS => ?_)
  have hP : va_P D vwCl [(m3, .inl (cI, 16, .inl mr)), (mo, .inr (4, [.int 0, .ref m1, .ref m2, .ref m3, .ref m4, .int mn]))] H := hP
  have hD : va_D A [(m3, .inl (cI, 16, .inl mr)), (mo, .inr (4, [.int 0, .ref m1, .ref m2, .ref m3, .ref m4, .int mn]))] := hD
  have hw_19 : r_19 = 0 := hw_19
  subst hw_19
  refine lv_if_eq (tgt := 29) hx hb dX2_above_22 (by decide) (fun c_22 => ?_) (fun c_22 => absurd (show (0 : Int32) = 0 by  decide) c_22)
  refine lv_aload_n hx hb dX2_above_29 rfl (lv_at hl 0 rfl) ?_
  refine lv_iload_n hx hb dX2_above_30 rfl (lv_at hl 1 rfl) ?_
  refine lv_iconst (v := 1) hx hb dX2_above_31 (by decide) ?_
  refine lv_aload_n hx hb dX2_above_32 rfl (lv_at hl 0 rfl) ?_
  refine va_get (D := D) (ci := 4) (v := .ref m3) (C := RX2) (T := TX2) (N := 6) hx hb hts in_X2_above_X2 hown hK hP 1 rfl rfl 3 (by decide) (hts (.fieldLink RX2 17 "NearestclockModel" "row" "[I") (List.mem_of_getElem? (i := 2) rfl)) (fun _ h9 => h9) rfl dX2_above_33 ?_
  refine lv_iconst (v := 0) hx hb dX2_above_36 (by decide) ?_
  refine va_iald hx hb hK hP 0 0 rfl rfl (vp_in_iff.mpr (by decide)) dX2_above_37 ?_
  refine vp_callSi (va_Run.run (va_runV (As := [.int i0, .int 1, .int (mr (0 : Int32).toNatClampNeg)]) (rest := []) ⟨hx, hb, hml, hown, hts⟩ (c_X2_line l D cI mo m1 m2 m3 m4 H.size 0 mn mr 0 i0 1 (mr (0 : Int32).toNatClampNeg) (by assumption) (by assumption) (by assumption) (n_sh1 mr)) (cwV 3 hts gX2_above_X2_line rfl rfl rfl (by decide +kernel) ⟨Nat.le_of_ble_eq_true rfl, Nat.le_of_ble_eq_true rfl⟩) ⟨ny_blind, va_recv hK hP (ci := 4) (q0 := 1) rfl rfl, fun U hU hW => ⟨rfl, ny_preU hE hP hK hD hS hA [1, 0] rfl (by decide) rfl [0] rfl U hU hW⟩⟩ rfl rfl hl.1 rfl (lv_room (Nat.le_of_ble_eq_true rfl)) dX2_above_38 ⟨Nat.le_of_ble_eq_true rfl, Nat.le_of_ble_eq_true rfl⟩)) (fun r_38 hw_38 => ?_)
  have hw_38 : r_38 = (f_sh mr 0 1 i0.toNatClampNeg).2 := hw_38
  subst hw_38
  have hP9 := hP.sub (ws' := [(mo, .inr (4, [.int 0, .ref m1, .ref m2, .ref m3, .ref m4, .int mn])), (m3, .inl (cI, 16, .inl mr))]) [1, 0] rfl
  have hD9 := hD.sub (ws' := [(mo, .inr (4, [.int 0, .ref m1, .ref m2, .ref m3, .ref m4, .int mn])), (m3, .inl (cI, 16, .inl mr))]) [1, 0] (by decide) rfl
  exact W.iret (v := (f_sh mr 0 1 i0.toNatClampNeg).2) hx hb hr (fun t ht hW => ⟨⟨(f_sh mr 0 1 i0.toNatClampNeg).2, (), rfl, (rfl), by rw [ht]; exact hP9, va_K.moved hW.alike hK, hD9⟩, hS.F ht⟩) hS.2.2 dX2_above_41
set_option maxHeartbeats 4000000 in
set_option maxRecDepth 100000 in
theorem c_X2_above_noP (l : Launch) (D : va_G) (cI : ClassId) (mo : Nat) (m1 : Nat) (m2 : Nat) (m3 : Nat) (m4 : Nat) (sz : Nat) (th : Int32) (mn : Int32) (mr : Nat → Int32) (i0 : Int32) (gi : ¬ (0 ≤ i0.toInt ∧ i0 ≤ mn)) : Met l yX2_above wsX2_above ({ frames := 1, cells := 0, slots := 0, locals := 22 }) (va_Pc [.ref mo, .int i0] (ny_pre D [(cI, .int)] [(mo, .inr (4, [.int th, .ref m1, .ref m2, .ref m3, .ref m4, .int mn])), (m3, .inl (cI, 16, .inl mr))] sz)) (va_Qi (fun (r : Int32) (u : Unit) => r = 0) (fun (u : Unit) t => ny_at D [(cI, .int)] (va_A [(mo, .inr (4, [.int th, .ref m1, .ref m2, .ref m3, .ref m4, .int mn])), (m3, .inl (cI, 16, .inl mr))] sz) [(mo, .inr (4, [.int 1, .ref m1, .ref m2, .ref m3, .ref m4, .int mn])), (m3, .inl (cI, 16, .inl mr))] t) (va_A [(mo, .inr (4, [.int th, .ref m1, .ref m2, .ref m3, .ref m4, .int mn])), (m3, .inl (cI, 16, .inl mr))] sz)) 0 0 (va_A [(mo, .inr (4, [.int th, .ref m1, .ref m2, .ref m3, .ref m4, .int mn])), (m3, .inl (cI, 16, .inl mr))] sz) := by
  refine Met.ofW (cc := cX2_above) (maxL := 2) (ret := (some .int)) (by decide) rfl ?_
  intro p e s m args below meth c s₁ B hml hv
  obtain ⟨rfl, hsz, hP, hK, hD0, hE⟩ := hv
  have hx := B.exec
  have hb := B.bytes
  have hr := B.returns
  have hts := atoms_spec (ws := wsX2_above) B.pre
  have hown : s.vm.findClass RX2 = some m.cls := findClass_of_methodNamed B.named
  have hlocks := B.notSynchronized
  subst hsz
  have hD := hD0.self (sz := s.heap.size)
  generalize hAe : va_A [(mo, .inr (4, [.int th, .ref m1, .ref m2, .ref m3, .ref m4, .int mn])), (m3, .inl (cI, 16, .inl mr))] s.heap.size = A at hD hE ⊢
  have hA : ∀ q : Nat, s.heap.size ≤ q → A q := fun q h => by rw [← hAe]; exact Or.inr h
  have hS : va_S A s.heap s.heap [] := va_S.rf
  have hl := lv_entry ([.ref mo, .int i0]) (n := 2) (Nat.le_of_ble_eq_true rfl)
  rw [lg_entry_eq]
  generalize (lg_sl ([.ref mo, .int i0]) ++ List.replicate (2 - (lg_sl ([.ref mo, .int i0])).length) Slot.unset).toArray = ls at hl ⊢
  have hl : lv_has ls 2 [(0, .ref mo), (1, .int i0)] := hl
  refine lv_aload_n hx hb dX2_above_0 rfl (lv_at hl 0 rfl) ?_
  refine lv_iload_n hx hb dX2_above_1 rfl (lv_at hl 1 rfl) ?_
  refine lv_if_lt (tgt := 13) hx hb dX2_above_2 (by decide) (fun c_2 => ?_) (fun c_2 => ?_)
  · refine lv_iconst (v := 1) hx hb dX2_above_13 (by decide) ?_
    refine lv_goto (tgt := 18) hx hb dX2_above_14 (by decide) ?_
    refine lv_iconst (v := 1) hx hb dX2_above_18 (by decide) ?_
    refine ny_i (wc := [(mo, .inr (4, [.int th, .ref m1, .ref m2, .ref m3, .ref m4, .int mn]))]) (wr := [(m3, .inl (cI, 16, .inl mr))]) hP hD hS hA [0] [1] rfl rfl (by decide) (by decide) (va_runV (As := [.int 1, .int 1]) (rest := []) ⟨hx, hb, hml, hown, hts⟩ (c_X2_isThrown_1 l D mo m1 m2 m3 m4 s.heap.size th mn 1) (cwV 2 hts gX2_above_X2_isThrown rfl rfl rfl (by decide +kernel) ⟨Nat.le_of_ble_eq_true rfl, Nat.le_of_ble_eq_true rfl⟩) ⟨ny_blind, va_recv hK hP (ci := 4) (q0 := 0) rfl rfl, fun U hU hW => ⟨rfl, ny_preU hE hP hK hD hS hA [0] rfl (by decide) rfl [] rfl U hU hW⟩⟩ rfl rfl hl.1 rfl (lv_room (Nat.le_of_ble_eq_true rfl)) dX2_above_19 ⟨Nat.le_of_ble_eq_true rfl, Nat.le_of_ble_eq_true rfl⟩) (fun r_19 u H locs hw_19 hP hD hS => ?_)
    have hP : va_P D vwCl [(m3, .inl (cI, 16, .inl mr)), (mo, .inr (4, [.int 1, .ref m1, .ref m2, .ref m3, .ref m4, .int mn]))] H := hP
    have hD : va_D A [(m3, .inl (cI, 16, .inl mr)), (mo, .inr (4, [.int 1, .ref m1, .ref m2, .ref m3, .ref m4, .int mn]))] := hD
    have hw_19 : r_19 = 1 := hw_19
    subst hw_19
    refine lv_if_eq (tgt := 29) hx hb dX2_above_22 (by decide) (fun c_22 => absurd c_22 (show ¬ ((1 : Int32) = 0) by  decide)) (fun c_22 => ?_)
    refine lv_iconst (v := 0) hx hb dX2_above_25 (by decide) ?_
    refine lv_goto (tgt := 41) hx hb dX2_above_26 (by decide) ?_
    have hP9 := hP.sub (ws' := [(mo, .inr (4, [.int 1, .ref m1, .ref m2, .ref m3, .ref m4, .int mn])), (m3, .inl (cI, 16, .inl mr))]) [1, 0] rfl
    have hD9 := hD.sub (ws' := [(mo, .inr (4, [.int 1, .ref m1, .ref m2, .ref m3, .ref m4, .int mn])), (m3, .inl (cI, 16, .inl mr))]) [1, 0] (by decide) rfl
    exact W.iret (v := 0) hx hb hr (fun t ht hW => ⟨⟨0, (), rfl, (rfl), by rw [ht]; exact hP9, va_K.moved hW.alike hK, hD9⟩, hS.F ht⟩) hS.2.2 dX2_above_41
  · refine lv_iload_n hx hb dX2_above_5 rfl (lv_at hl 1 rfl) ?_
    refine lv_aload_n hx hb dX2_above_6 rfl (lv_at hl 0 rfl) ?_
    refine va_get (D := D) (ci := 4) (v := .int mn) (C := RX2) (T := TX2) (N := 6) hx hb hts in_X2_above_X2 hown hK hP 0 rfl rfl 5 (by decide) (hts (.fieldLink RX2 88 "NearestclockModel" "many" "I") (List.mem_of_getElem? (i := 1) rfl)) (fun _ h9 => h9) rfl dX2_above_7 ?_
    refine lv_icmp_le (tgt := 17) hx hb dX2_above_10 (by decide) (fun c_10 => absurd c_10 (show ¬ ((i0 : Int32) ≤ mn) from fun q => gi ⟨by rw [fa_lt, ny_z0] at c_2; omega, q⟩)) (fun c_10 => ?_)
    refine lv_iconst (v := 1) hx hb dX2_above_13 (by decide) ?_
    refine lv_goto (tgt := 18) hx hb dX2_above_14 (by decide) ?_
    refine lv_iconst (v := 1) hx hb dX2_above_18 (by decide) ?_
    refine ny_i (wc := [(mo, .inr (4, [.int th, .ref m1, .ref m2, .ref m3, .ref m4, .int mn]))]) (wr := [(m3, .inl (cI, 16, .inl mr))]) hP hD hS hA [0] [1] rfl rfl (by decide) (by decide) (va_runV (As := [.int 1, .int 1]) (rest := []) ⟨hx, hb, hml, hown, hts⟩ (c_X2_isThrown_1 l D mo m1 m2 m3 m4 s.heap.size th mn 1) (cwV 2 hts gX2_above_X2_isThrown rfl rfl rfl (by decide +kernel) ⟨Nat.le_of_ble_eq_true rfl, Nat.le_of_ble_eq_true rfl⟩) ⟨ny_blind, va_recv hK hP (ci := 4) (q0 := 0) rfl rfl, fun U hU hW => ⟨rfl, ny_preU hE hP hK hD hS hA [0] rfl (by decide) rfl [] rfl U hU hW⟩⟩ rfl rfl hl.1 rfl (lv_room (Nat.le_of_ble_eq_true rfl)) dX2_above_19 ⟨Nat.le_of_ble_eq_true rfl, Nat.le_of_ble_eq_true rfl⟩) (fun r_19 u H locs hw_19 hP hD hS => ?_)
    have hP : va_P D vwCl [(m3, .inl (cI, 16, .inl mr)), (mo, .inr (4, [.int 1, .ref m1, .ref m2, .ref m3, .ref m4, .int mn]))] H := hP
    have hD : va_D A [(m3, .inl (cI, 16, .inl mr)), (mo, .inr (4, [.int 1, .ref m1, .ref m2, .ref m3, .ref m4, .int mn]))] := hD
    have hw_19 : r_19 = 1 := hw_19
    subst hw_19
    refine lv_if_eq (tgt := 29) hx hb dX2_above_22 (by decide) (fun c_22 => absurd c_22 (show ¬ ((1 : Int32) = 0) by  decide)) (fun c_22 => ?_)
    refine lv_iconst (v := 0) hx hb dX2_above_25 (by decide) ?_
    refine lv_goto (tgt := 41) hx hb dX2_above_26 (by decide) ?_
    have hP9 := hP.sub (ws' := [(mo, .inr (4, [.int 1, .ref m1, .ref m2, .ref m3, .ref m4, .int mn])), (m3, .inl (cI, 16, .inl mr))]) [1, 0] rfl
    have hD9 := hD.sub (ws' := [(mo, .inr (4, [.int 1, .ref m1, .ref m2, .ref m3, .ref m4, .int mn])), (m3, .inl (cI, 16, .inl mr))]) [1, 0] (by decide) rfl
    exact W.iret (v := 0) hx hb hr (fun t ht hW => ⟨⟨0, (), rfl, (rfl), by rw [ht]; exact hP9, va_K.moved hW.alike hK, hD9⟩, hS.F ht⟩) hS.2.2 dX2_above_41
theorem in_X2_below_X2 : ∀ w ∈ wsX20, w ∈ wsX2_below := (fun _ h => List.mem_cons_of_mem _ (List.mem_append_left _ (List.mem_append_right _ h)))
set_option maxHeartbeats 4000000 in
set_option maxRecDepth 100000 in
theorem c_X2_below (l : Launch) (D : va_G) (cI : ClassId) (mo : Nat) (m1 : Nat) (m2 : Nat) (m3 : Nat) (m4 : Nat) (sz : Nat) (th : Int32) (mn : Int32) (mr : Nat → Int32) (i0 : Int32) (gi0 : 0 ≤ i0.toInt) (gi1 : i0 ≤ mn) (g7 : mn.toInt ≤ 7) : Met l yX2_below wsX2_below ({ frames := 1, cells := 0, slots := 0, locals := 27 }) (va_Pc [.ref mo, .int i0] (ny_pre D [(cI, .int)] [(mo, .inr (4, [.int th, .ref m1, .ref m2, .ref m3, .ref m4, .int mn])), (m3, .inl (cI, 16, .inl mr))] sz)) (va_Qi (fun (r : Int32) (u : Unit) => r = (f_sh mr 1 0 i0.toNatClampNeg).2) (fun (u : Unit) t => ny_at D [(cI, .int)] (va_A [(mo, .inr (4, [.int th, .ref m1, .ref m2, .ref m3, .ref m4, .int mn])), (m3, .inl (cI, 16, .inl mr))] sz) [(mo, .inr (4, [.int 0, .ref m1, .ref m2, .ref m3, .ref m4, .int mn])), (m3, .inl (cI, 16, .inl mr))] t) (va_A [(mo, .inr (4, [.int th, .ref m1, .ref m2, .ref m3, .ref m4, .int mn])), (m3, .inl (cI, 16, .inl mr))] sz)) 0 0 (va_A [(mo, .inr (4, [.int th, .ref m1, .ref m2, .ref m3, .ref m4, .int mn])), (m3, .inl (cI, 16, .inl mr))] sz) := by
  refine Met.ofW (cc := cX2_below) (maxL := 2) (ret := (some .int)) (by decide) rfl ?_
  intro p e s m args below meth c s₁ B hml hv
  obtain ⟨rfl, hsz, hP, hK, hD0, hE⟩ := hv
  have hx := B.exec
  have hb := B.bytes
  have hr := B.returns
  have hts := atoms_spec (ws := wsX2_below) B.pre
  have hown : s.vm.findClass RX2 = some m.cls := findClass_of_methodNamed B.named
  have hlocks := B.notSynchronized
  subst hsz
  have hD := hD0.self (sz := s.heap.size)
  generalize hAe : va_A [(mo, .inr (4, [.int th, .ref m1, .ref m2, .ref m3, .ref m4, .int mn])), (m3, .inl (cI, 16, .inl mr))] s.heap.size = A at hD hE ⊢
  have hA : ∀ q : Nat, s.heap.size ≤ q → A q := fun q h => by rw [← hAe]; exact Or.inr h
  have hS : va_S A s.heap s.heap [] := va_S.rf
  have hl := lv_entry ([.ref mo, .int i0]) (n := 2) (Nat.le_of_ble_eq_true rfl)
  rw [lg_entry_eq]
  generalize (lg_sl ([.ref mo, .int i0]) ++ List.replicate (2 - (lg_sl ([.ref mo, .int i0])).length) Slot.unset).toArray = ls at hl ⊢
  have hl : lv_has ls 2 [(0, .ref mo), (1, .int i0)] := hl
  refine lv_aload_n hx hb dX2_below_0 rfl (lv_at hl 0 rfl) ?_
  refine lv_iload_n hx hb dX2_below_1 rfl (lv_at hl 1 rfl) ?_
  refine lv_if_lt (tgt := 13) hx hb dX2_below_2 (by decide) (fun c_2 => absurd c_2 (show ¬ ((i0 : Int32) < 0) by  rw [fa_lt, ny_z0]; omega)) (fun c_2 => ?_)
  refine lv_iload_n hx hb dX2_below_5 rfl (lv_at hl 1 rfl) ?_
  refine lv_aload_n hx hb dX2_below_6 rfl (lv_at hl 0 rfl) ?_
  refine va_get (D := D) (ci := 4) (v := .int mn) (C := RX2) (T := TX2) (N := 6) hx hb hts in_X2_below_X2 hown hK hP 0 rfl rfl 5 (by decide) (hts (.fieldLink RX2 88 "NearestclockModel" "many" "I") (List.mem_of_getElem? (i := 1) rfl)) (fun _ h9 => h9) rfl dX2_below_7 ?_
  refine lv_icmp_le (tgt := 17) hx hb dX2_below_10 (by decide) (fun c_10 => ?_) (fun c_10 => absurd (show (i0 : Int32) ≤ mn from gi1) c_10)
  refine lv_iconst (v := 0) hx hb dX2_below_17 (by decide) ?_
  refine lv_iconst (v := 1) hx hb dX2_below_18 (by decide) ?_
  refine ny_i (wc := [(mo, .inr (4, [.int th, .ref m1, .ref m2, .ref m3, .ref m4, .int mn]))]) (wr := [(m3, .inl (cI, 16, .inl mr))]) hP hD hS hA [0] [1] rfl rfl (by decide) (by decide) (va_runV (As := [.int 0, .int 1]) (rest := []) ⟨hx, hb, hml, hown, hts⟩ (c_X2_isThrown_0 l D mo m1 m2 m3 m4 s.heap.size th mn 1) (cwV 2 hts gX2_below_X2_isThrown rfl rfl rfl (by decide +kernel) ⟨Nat.le_of_ble_eq_true rfl, Nat.le_of_ble_eq_true rfl⟩) ⟨ny_blind, va_recv hK hP (ci := 4) (q0 := 0) rfl rfl, fun U hU hW => ⟨rfl, ny_preU hE hP hK hD hS hA [0] rfl (by decide) rfl [] rfl U hU hW⟩⟩ rfl rfl hl.1 rfl (lv_room (Nat.le_of_ble_eq_true rfl)) dX2_below_19 ⟨Nat.le_of_ble_eq_true rfl, Nat.le_of_ble_eq_true rfl⟩) (fun r_19 u H locs hw_19 hP hD hS => ?_)
  have hP : va_P D vwCl [(m3, .inl (cI, 16, .inl mr)), (mo, .inr (4, [.int 0, .ref m1, .ref m2, .ref m3, .ref m4, .int mn]))] H := hP
  have hD : va_D A [(m3, .inl (cI, 16, .inl mr)), (mo, .inr (4, [.int 0, .ref m1, .ref m2, .ref m3, .ref m4, .int mn]))] := hD
  have hw_19 : r_19 = 0 := hw_19
  subst hw_19
  refine lv_if_eq (tgt := 29) hx hb dX2_below_22 (by decide) (fun c_22 => ?_) (fun c_22 => absurd (show (0 : Int32) = 0 by  decide) c_22)
  refine lv_aload_n hx hb dX2_below_29 rfl (lv_at hl 0 rfl) ?_
  refine lv_iload_n hx hb dX2_below_30 rfl (lv_at hl 1 rfl) ?_
  refine lv_iconst (v := 0) hx hb dX2_below_31 (by decide) ?_
  refine lv_iconst (v := 1) hx hb dX2_below_32 (by decide) ?_
  refine vp_callSi (va_Run.run (va_runV (As := [.int i0, .int 0, .int 1]) (rest := []) ⟨hx, hb, hml, hown, hts⟩ (c_X2_line l D cI mo m1 m2 m3 m4 H.size 0 mn mr 1 i0 0 1 (by assumption) (by assumption) (by assumption) (n_sh2 mr)) (cwV 3 hts gX2_below_X2_line rfl rfl rfl (by decide +kernel) ⟨Nat.le_of_ble_eq_true rfl, Nat.le_of_ble_eq_true rfl⟩) ⟨ny_blind, va_recv hK hP (ci := 4) (q0 := 1) rfl rfl, fun U hU hW => ⟨rfl, ny_preU hE hP hK hD hS hA [1, 0] rfl (by decide) rfl [0] rfl U hU hW⟩⟩ rfl rfl hl.1 rfl (lv_room (Nat.le_of_ble_eq_true rfl)) dX2_below_33 ⟨Nat.le_of_ble_eq_true rfl, Nat.le_of_ble_eq_true rfl⟩)) (fun r_33 hw_33 => ?_)
  have hw_33 : r_33 = (f_sh mr 1 0 i0.toNatClampNeg).2 := hw_33
  subst hw_33
  have hP9 := hP.sub (ws' := [(mo, .inr (4, [.int 0, .ref m1, .ref m2, .ref m3, .ref m4, .int mn])), (m3, .inl (cI, 16, .inl mr))]) [1, 0] rfl
  have hD9 := hD.sub (ws' := [(mo, .inr (4, [.int 0, .ref m1, .ref m2, .ref m3, .ref m4, .int mn])), (m3, .inl (cI, 16, .inl mr))]) [1, 0] (by decide) rfl
  exact W.iret (v := (f_sh mr 1 0 i0.toNatClampNeg).2) hx hb hr (fun t ht hW => ⟨⟨(f_sh mr 1 0 i0.toNatClampNeg).2, (), rfl, (rfl), by rw [ht]; exact hP9, va_K.moved hW.alike hK, hD9⟩, hS.F ht⟩) hS.2.2 dX2_below_36
set_option maxHeartbeats 4000000 in
set_option maxRecDepth 100000 in
theorem c_X2_below_noP (l : Launch) (D : va_G) (cI : ClassId) (mo : Nat) (m1 : Nat) (m2 : Nat) (m3 : Nat) (m4 : Nat) (sz : Nat) (th : Int32) (mn : Int32) (mr : Nat → Int32) (i0 : Int32) (gi : ¬ (0 ≤ i0.toInt ∧ i0 ≤ mn)) : Met l yX2_below wsX2_below ({ frames := 1, cells := 0, slots := 0, locals := 22 }) (va_Pc [.ref mo, .int i0] (ny_pre D [(cI, .int)] [(mo, .inr (4, [.int th, .ref m1, .ref m2, .ref m3, .ref m4, .int mn])), (m3, .inl (cI, 16, .inl mr))] sz)) (va_Qi (fun (r : Int32) (u : Unit) => r = 0) (fun (u : Unit) t => ny_at D [(cI, .int)] (va_A [(mo, .inr (4, [.int th, .ref m1, .ref m2, .ref m3, .ref m4, .int mn])), (m3, .inl (cI, 16, .inl mr))] sz) [(mo, .inr (4, [.int 1, .ref m1, .ref m2, .ref m3, .ref m4, .int mn])), (m3, .inl (cI, 16, .inl mr))] t) (va_A [(mo, .inr (4, [.int th, .ref m1, .ref m2, .ref m3, .ref m4, .int mn])), (m3, .inl (cI, 16, .inl mr))] sz)) 0 0 (va_A [(mo, .inr (4, [.int th, .ref m1, .ref m2, .ref m3, .ref m4, .int mn])), (m3, .inl (cI, 16, .inl mr))] sz) := by
  refine Met.ofW (cc := cX2_below) (maxL := 2) (ret := (some .int)) (by decide) rfl ?_
  intro p e s m args below meth c s₁ B hml hv
  obtain ⟨rfl, hsz, hP, hK, hD0, hE⟩ := hv
  have hx := B.exec
  have hb := B.bytes
  have hr := B.returns
  have hts := atoms_spec (ws := wsX2_below) B.pre
  have hown : s.vm.findClass RX2 = some m.cls := findClass_of_methodNamed B.named
  have hlocks := B.notSynchronized
  subst hsz
  have hD := hD0.self (sz := s.heap.size)
  generalize hAe : va_A [(mo, .inr (4, [.int th, .ref m1, .ref m2, .ref m3, .ref m4, .int mn])), (m3, .inl (cI, 16, .inl mr))] s.heap.size = A at hD hE ⊢
  have hA : ∀ q : Nat, s.heap.size ≤ q → A q := fun q h => by rw [← hAe]; exact Or.inr h
  have hS : va_S A s.heap s.heap [] := va_S.rf
  have hl := lv_entry ([.ref mo, .int i0]) (n := 2) (Nat.le_of_ble_eq_true rfl)
  rw [lg_entry_eq]
  generalize (lg_sl ([.ref mo, .int i0]) ++ List.replicate (2 - (lg_sl ([.ref mo, .int i0])).length) Slot.unset).toArray = ls at hl ⊢
  have hl : lv_has ls 2 [(0, .ref mo), (1, .int i0)] := hl
  refine lv_aload_n hx hb dX2_below_0 rfl (lv_at hl 0 rfl) ?_
  refine lv_iload_n hx hb dX2_below_1 rfl (lv_at hl 1 rfl) ?_
  refine lv_if_lt (tgt := 13) hx hb dX2_below_2 (by decide) (fun c_2 => ?_) (fun c_2 => ?_)
  · refine lv_iconst (v := 1) hx hb dX2_below_13 (by decide) ?_
    refine lv_goto (tgt := 18) hx hb dX2_below_14 (by decide) ?_
    refine lv_iconst (v := 1) hx hb dX2_below_18 (by decide) ?_
    refine ny_i (wc := [(mo, .inr (4, [.int th, .ref m1, .ref m2, .ref m3, .ref m4, .int mn]))]) (wr := [(m3, .inl (cI, 16, .inl mr))]) hP hD hS hA [0] [1] rfl rfl (by decide) (by decide) (va_runV (As := [.int 1, .int 1]) (rest := []) ⟨hx, hb, hml, hown, hts⟩ (c_X2_isThrown_1 l D mo m1 m2 m3 m4 s.heap.size th mn 1) (cwV 2 hts gX2_below_X2_isThrown rfl rfl rfl (by decide +kernel) ⟨Nat.le_of_ble_eq_true rfl, Nat.le_of_ble_eq_true rfl⟩) ⟨ny_blind, va_recv hK hP (ci := 4) (q0 := 0) rfl rfl, fun U hU hW => ⟨rfl, ny_preU hE hP hK hD hS hA [0] rfl (by decide) rfl [] rfl U hU hW⟩⟩ rfl rfl hl.1 rfl (lv_room (Nat.le_of_ble_eq_true rfl)) dX2_below_19 ⟨Nat.le_of_ble_eq_true rfl, Nat.le_of_ble_eq_true rfl⟩) (fun r_19 u H locs hw_19 hP hD hS => ?_)
    have hP : va_P D vwCl [(m3, .inl (cI, 16, .inl mr)), (mo, .inr (4, [.int 1, .ref m1, .ref m2, .ref m3, .ref m4, .int mn]))] H := hP
    have hD : va_D A [(m3, .inl (cI, 16, .inl mr)), (mo, .inr (4, [.int 1, .ref m1, .ref m2, .ref m3, .ref m4, .int mn]))] := hD
    have hw_19 : r_19 = 1 := hw_19
    subst hw_19
    refine lv_if_eq (tgt := 29) hx hb dX2_below_22 (by decide) (fun c_22 => absurd c_22 (show ¬ ((1 : Int32) = 0) by  decide)) (fun c_22 => ?_)
    refine lv_iconst (v := 0) hx hb dX2_below_25 (by decide) ?_
    refine lv_goto (tgt := 36) hx hb dX2_below_26 (by decide) ?_
    have hP9 := hP.sub (ws' := [(mo, .inr (4, [.int 1, .ref m1, .ref m2, .ref m3, .ref m4, .int mn])), (m3, .inl (cI, 16, .inl mr))]) [1, 0] rfl
    have hD9 := hD.sub (ws' := [(mo, .inr (4, [.int 1, .ref m1, .ref m2, .ref m3, .ref m4, .int mn])), (m3, .inl (cI, 16, .inl mr))]) [1, 0] (by decide) rfl
    exact W.iret (v := 0) hx hb hr (fun t ht hW => ⟨⟨0, (), rfl, (rfl), by rw [ht]; exact hP9, va_K.moved hW.alike hK, hD9⟩, hS.F ht⟩) hS.2.2 dX2_below_36
  · refine lv_iload_n hx hb dX2_below_5 rfl (lv_at hl 1 rfl) ?_
    refine lv_aload_n hx hb dX2_below_6 rfl (lv_at hl 0 rfl) ?_
    refine va_get (D := D) (ci := 4) (v := .int mn) (C := RX2) (T := TX2) (N := 6) hx hb hts in_X2_below_X2 hown hK hP 0 rfl rfl 5 (by decide) (hts (.fieldLink RX2 88 "NearestclockModel" "many" "I") (List.mem_of_getElem? (i := 1) rfl)) (fun _ h9 => h9) rfl dX2_below_7 ?_
    refine lv_icmp_le (tgt := 17) hx hb dX2_below_10 (by decide) (fun c_10 => absurd c_10 (show ¬ ((i0 : Int32) ≤ mn) from fun q => gi ⟨by rw [fa_lt, ny_z0] at c_2; omega, q⟩)) (fun c_10 => ?_)
    refine lv_iconst (v := 1) hx hb dX2_below_13 (by decide) ?_
    refine lv_goto (tgt := 18) hx hb dX2_below_14 (by decide) ?_
    refine lv_iconst (v := 1) hx hb dX2_below_18 (by decide) ?_
    refine ny_i (wc := [(mo, .inr (4, [.int th, .ref m1, .ref m2, .ref m3, .ref m4, .int mn]))]) (wr := [(m3, .inl (cI, 16, .inl mr))]) hP hD hS hA [0] [1] rfl rfl (by decide) (by decide) (va_runV (As := [.int 1, .int 1]) (rest := []) ⟨hx, hb, hml, hown, hts⟩ (c_X2_isThrown_1 l D mo m1 m2 m3 m4 s.heap.size th mn 1) (cwV 2 hts gX2_below_X2_isThrown rfl rfl rfl (by decide +kernel) ⟨Nat.le_of_ble_eq_true rfl, Nat.le_of_ble_eq_true rfl⟩) ⟨ny_blind, va_recv hK hP (ci := 4) (q0 := 0) rfl rfl, fun U hU hW => ⟨rfl, ny_preU hE hP hK hD hS hA [0] rfl (by decide) rfl [] rfl U hU hW⟩⟩ rfl rfl hl.1 rfl (lv_room (Nat.le_of_ble_eq_true rfl)) dX2_below_19 ⟨Nat.le_of_ble_eq_true rfl, Nat.le_of_ble_eq_true rfl⟩) (fun r_19 u H locs hw_19 hP hD hS => ?_)
    have hP : va_P D vwCl [(m3, .inl (cI, 16, .inl mr)), (mo, .inr (4, [.int 1, .ref m1, .ref m2, .ref m3, .ref m4, .int mn]))] H := hP
    have hD : va_D A [(m3, .inl (cI, 16, .inl mr)), (mo, .inr (4, [.int 1, .ref m1, .ref m2, .ref m3, .ref m4, .int mn]))] := hD
    have hw_19 : r_19 = 1 := hw_19
    subst hw_19
    refine lv_if_eq (tgt := 29) hx hb dX2_below_22 (by decide) (fun c_22 => absurd c_22 (show ¬ ((1 : Int32) = 0) by  decide)) (fun c_22 => ?_)
    refine lv_iconst (v := 0) hx hb dX2_below_25 (by decide) ?_
    refine lv_goto (tgt := 36) hx hb dX2_below_26 (by decide) ?_
    have hP9 := hP.sub (ws' := [(mo, .inr (4, [.int 1, .ref m1, .ref m2, .ref m3, .ref m4, .int mn])), (m3, .inl (cI, 16, .inl mr))]) [1, 0] rfl
    have hD9 := hD.sub (ws' := [(mo, .inr (4, [.int 1, .ref m1, .ref m2, .ref m3, .ref m4, .int mn])), (m3, .inl (cI, 16, .inl mr))]) [1, 0] (by decide) rfl
    exact W.iret (v := 0) hx hb hr (fun t ht hW => ⟨⟨0, (), rfl, (rfl), by rw [ht]; exact hP9, va_K.moved hW.alike hK, hD9⟩, hS.F ht⟩) hS.2.2 dX2_below_36
theorem in_X2_sum_X2 : ∀ w ∈ wsX20, w ∈ wsX2_sum := (fun _ h => List.mem_cons_of_mem _ (List.mem_append_left _ (List.mem_append_right _ h)))
set_option maxHeartbeats 4000000 in
set_option maxRecDepth 100000 in
theorem c_X2_sum (l : Launch) (D : va_G) (cI : ClassId) (mo : Nat) (m1 : Nat) (m2 : Nat) (m3 : Nat) (m4 : Nat) (sz : Nat) (th : Int32) (mn : Int32) (hf : Nat → Int32) : Met l yX2_sum wsX2_sum ({ frames := 0, cells := 0, slots := 0, locals := 0 }) (va_Pc [.ref mo] (ny_pre D [(cI, .int)] [(mo, .inr (4, [.int th, .ref m1, .ref m2, .ref m3, .ref m4, .int mn])), (m1, .inl (cI, 12, .inl hf))] sz)) (vp_Si (fun r => r = f_sum hf 12)) 0 0 (fun _ => False) := by
  refine Met.ofW (cc := cX2_sum) (maxL := 3) (ret := (some .int)) (by decide) rfl ?_
  intro p e s m args below meth c s₁ B hml hv
  obtain ⟨rfl, hsz, hP, hK, hD0, hE⟩ := hv
  have hx := B.exec
  have hb := B.bytes
  have hr := B.returns
  have hts := atoms_spec (ws := wsX2_sum) B.pre
  have hown : s.vm.findClass RX2 = some m.cls := findClass_of_methodNamed B.named
  have hlocks := B.notSynchronized
  subst hsz
  have hD := hD0.self (sz := s.heap.size)
  generalize hAe : va_A [(mo, .inr (4, [.int th, .ref m1, .ref m2, .ref m3, .ref m4, .int mn])), (m1, .inl (cI, 12, .inl hf))] s.heap.size = A at hD hE
  have hA : ∀ q : Nat, s.heap.size ≤ q → A q := fun q h => by rw [← hAe]; exact Or.inr h
  have hS : va_S A s.heap s.heap [] := va_S.rf
  have hl := lv_entry ([.ref mo]) (n := 3) (Nat.le_of_ble_eq_true rfl)
  rw [lg_entry_eq]
  generalize (lg_sl ([.ref mo]) ++ List.replicate (3 - (lg_sl ([.ref mo])).length) Slot.unset).toArray = ls at hl ⊢
  have hl : lv_has ls 3 [(0, .ref mo)] := hl
  refine lv_iconst (v := 0) hx hb dX2_sum_0 (by decide) ?_
  refine ny_ti (x2 := f_sum hf 0) (rfl) ?_
  refine lv_istore_n (lv' := [(1, .int (f_sum hf 0)), (0, .ref mo)]) hx hb dX2_sum_1 rfl hl (by decide) rfl (fun ls hl => ?_)
  refine lv_iconst (v := 0) hx hb dX2_sum_2 (by decide) ?_
  refine ny_ti (x2 := nI 0) (rfl) ?_
  refine lv_istore_n (lv' := [(2, .int (nI 0)), (1, .int (f_sum hf 0)), (0, .ref mo)]) hx hb dX2_sum_3 rfl hl (by decide) rfl (fun ls hl => ?_)
  refine ny_lp 4 3 (fun u : Nat => u ≤ 12) (fun u => 12 - u) (fun u => [(0, .ref mo), (1, .int (f_sum hf u)), (2, .int (nI u))]) (fun u hu ih ls hl => ?_) 0 (show 0 ≤ 12 from by decide) (lv_sub hl [2, 1, 0] rfl)
  obtain ⟨k, rfl⟩ : ∃ z, z = u := ⟨_, rfl⟩
  have hk : k ≤ 12 := hu
  have hl : lv_has ls 3 [(0, .ref mo), (1, .int (f_sum hf k)), (2, .int (nI k))] := hl
  refine lv_iload_n hx hb dX2_sum_4 rfl (lv_at hl 2 rfl) ?_
  refine lv_bipush (v := 12) hx hb dX2_sum_5 (by decide) ?_
  refine lv_icmp_ge (tgt := 25) hx hb dX2_sum_7 (by decide) (fun c_7 => ?_) (fun c_7 => ?_)
  · refine lv_iload_n hx hb dX2_sum_25 rfl (lv_at hl 1 rfl) ?_
    exact W.iret (v := f_sum hf k) hx hb hr (fun t ht hW => ⟨f_sum hf k, rfl, (by rw [n_ge12 hk c_7]), ht⟩) (fun q hq => absurd hq List.not_mem_nil) dX2_sum_26
  · have hk2 := n_lt12 hk c_7
    refine lv_iload_n hx hb dX2_sum_10 rfl (lv_at hl 1 rfl) ?_
    refine lv_aload_n hx hb dX2_sum_11 rfl (lv_at hl 0 rfl) ?_
    refine va_get (D := D) (ci := 4) (v := .ref m1) (C := RX2) (T := TX2) (N := 6) hx hb hts in_X2_sum_X2 hown hK hP 0 rfl rfl 1 (by decide) (hts (.fieldLink RX2 7 "NearestclockModel" "eighths" "[I") (List.mem_of_getElem? (i := 1) rfl)) (fun _ h9 => h9) rfl dX2_sum_12 ?_
    refine lv_iload_n hx hb dX2_sum_15 rfl (lv_at hl 2 rfl) ?_
    refine va_iald hx hb hK hP 1 0 rfl rfl (vp_in_nI hk2 (by decide)) dX2_sum_16 ?_
    refine lv_iadd hx hb dX2_sum_17 ?_
    refine ny_ti (x2 := f_sum hf (k + 1)) (n_sumS hk2) ?_
    refine lv_istore_n (lv' := [(1, .int (f_sum hf (k + 1))), (0, .ref mo), (2, .int (nI k))]) hx hb dX2_sum_18 rfl hl (by decide) rfl (fun ls hl => ?_)
    refine lv_iinc (v := nI (k + 1)) (lv' := [(2, .int (nI (k + 1))), (1, .int (f_sum hf (k + 1))), (0, .ref mo)]) hx hb dX2_sum_19 hl (k := 2) rfl (n_incN k) (by decide) rfl (fun ls hl => ?_)
    refine lv_goto (tgt := 4) hx hb dX2_sum_22 (by decide) ?_
    exact ih (k + 1) (show (k + 1) ≤ 12 from by omega) (show 12 - (k + 1) < 12 - k by omega) _ (lv_sub hl [2, 1, 0] rfl)
theorem in_X2_checksum_X2 : ∀ w ∈ wsX20, w ∈ wsX2_checksum := (fun _ h => List.mem_cons_of_mem _ (List.mem_append_left _ (List.mem_append_right _ h)))
set_option maxHeartbeats 4000000 in
set_option maxRecDepth 100000 in
theorem c_X2_checksum (l : Launch) (D : va_G) (cI : ClassId) (cZ : ClassId) (mo : Nat) (m1 : Nat) (m2 : Nat) (m3 : Nat) (m4 : Nat) (sz : Nat) (th : Int32) (mn : Int32) (hf : Nat → Int32) (bf : Nat → Int32) (mr : Nat → Int32) (gH : ny_H hf) (g0 : 0 ≤ mn.toInt) (g7 : mn.toInt ≤ 7) : Met l yX2_checksum wsX2_checksum ({ frames := 2, cells := 0, slots := 0, locals := 47 }) (va_Pc [.ref mo] (ny_pre D [(cI, .int), (cZ, .boolean)] [(mo, .inr (4, [.int th, .ref m1, .ref m2, .ref m3, .ref m4, .int mn])), (m1, .inl (cI, 12, .inl hf)), (m2, .inl (cZ, 12, .inl bf)), (m3, .inl (cI, 16, .inl mr))] sz)) (vp_Sl (fun r => r = f_cd (31 * f_ck hf bf 12 + mn.toInt64) mr mn.toNatClampNeg)) 0 0 (fun _ => False) := by
  refine Met.ofW (cc := cX2_checksum) (maxL := 4) (ret := (some .long)) (by decide) rfl ?_
  intro p e s m args below meth c s₁ B hml hv
  obtain ⟨rfl, hsz, hP, hK, hD0, hE⟩ := hv
  have hx := B.exec
  have hb := B.bytes
  have hr := B.returns
  have hts := atoms_spec (ws := wsX2_checksum) B.pre
  have hown : s.vm.findClass RX2 = some m.cls := findClass_of_methodNamed B.named
  have hlocks := B.notSynchronized
  subst hsz
  have hD := hD0.self (sz := s.heap.size)
  generalize hAe : va_A [(mo, .inr (4, [.int th, .ref m1, .ref m2, .ref m3, .ref m4, .int mn])), (m1, .inl (cI, 12, .inl hf)), (m2, .inl (cZ, 12, .inl bf)), (m3, .inl (cI, 16, .inl mr))] s.heap.size = A at hD hE
  have hA : ∀ q : Nat, s.heap.size ≤ q → A q := fun q h => by rw [← hAe]; exact Or.inr h
  have hS : va_S A s.heap s.heap [] := va_S.rf
  have hl := lv_entry ([.ref mo]) (n := 4) (Nat.le_of_ble_eq_true rfl)
  rw [lg_entry_eq]
  generalize (lg_sl ([.ref mo]) ++ List.replicate (4 - (lg_sl ([.ref mo])).length) Slot.unset).toArray = ls at hl ⊢
  have hl : lv_has ls 4 [(0, .ref mo)] := hl
  refine lv_ldc2 (own := RX2) (v := 17) hx hb hown (hts (.constantLong RX2 95 (17)) (List.mem_of_getElem? (i := 1) rfl)) dX2_checksum_0 ?_
  refine ny_tl (x2 := f_ck hf bf 0) (rfl) ?_
  refine lv_lstore_n (lv' := [(1, .long (f_ck hf bf 0)), (0, .ref mo)]) hx hb dX2_checksum_3 rfl hl (by decide) rfl (fun ls hl => ?_)
  refine lv_iconst (v := 0) hx hb dX2_checksum_4 (by decide) ?_
  refine ny_ti (x2 := nI 0) (rfl) ?_
  refine lv_istore_n (lv' := [(3, .int (nI 0)), (1, .long (f_ck hf bf 0)), (0, .ref mo)]) hx hb dX2_checksum_5 rfl hl (by decide) rfl (fun ls hl => ?_)
  refine ny_lp 6 4 (fun u : Nat => u ≤ 12) (fun u => 12 - u) (fun u => [(0, .ref mo), (1, .long (f_ck hf bf u)), (3, .int (nI u))]) (fun u hu ih ls hl => ?_) 0 (show 0 ≤ 12 from by decide) (lv_sub hl [2, 1, 0] rfl)
  obtain ⟨k, rfl⟩ : ∃ z, z = u := ⟨_, rfl⟩
  have hk : k ≤ 12 := hu
  have hl : lv_has ls 4 [(0, .ref mo), (1, .long (f_ck hf bf k)), (3, .int (nI k))] := hl
  refine lv_iload_n hx hb dX2_checksum_6 rfl (lv_at hl 2 rfl) ?_
  refine lv_bipush (v := 12) hx hb dX2_checksum_7 (by decide) ?_
  refine lv_icmp_ge (tgt := 40) hx hb dX2_checksum_9 (by decide) (fun c_9 => ?_) (fun c_9 => ?_)
  · refine lv_ldc2 (own := RX2) (v := 31) hx hb hown (hts (.constantLong RX2 97 (31)) (List.mem_of_getElem? (i := 2) rfl)) dX2_checksum_40 ?_
    refine lv_lload_n hx hb dX2_checksum_43 rfl (lv_at hl 1 rfl) ?_
    refine lv_lmul hx hb dX2_checksum_44 ?_
    refine lv_aload_n hx hb dX2_checksum_45 rfl (lv_at hl 0 rfl) ?_
    refine va_get (D := D) (ci := 4) (v := .int mn) (C := RX2) (T := TX2) (N := 6) hx hb hts in_X2_checksum_X2 hown hK hP 0 rfl rfl 5 (by decide) (hts (.fieldLink RX2 88 "NearestclockModel" "many" "I") (List.mem_of_getElem? (i := 5) rfl)) (fun _ h9 => h9) rfl dX2_checksum_46 ?_
    refine lv_i2l hx hb dX2_checksum_49 rfl ?_
    refine lv_ladd hx hb dX2_checksum_50 ?_
    refine ny_tl (x2 := f_cd (31 * f_ck hf bf 12 + mn.toInt64) mr 0) (by rw [n_ge12 hk c_9]; rfl) ?_
    refine lv_lstore_n (lv' := [(1, .long (f_cd (31 * f_ck hf bf 12 + mn.toInt64) mr 0)), (0, .ref mo), (3, .int (nI k))]) hx hb dX2_checksum_51 rfl hl (by decide) rfl (fun ls hl => ?_)
    refine lv_iconst (v := 0) hx hb dX2_checksum_52 (by decide) ?_
    refine ny_ti (x2 := nI 0) (rfl) ?_
    refine lv_istore_n (lv' := [(3, .int (nI 0)), (1, .long (f_cd (31 * f_ck hf bf 12 + mn.toInt64) mr 0)), (0, .ref mo)]) hx hb dX2_checksum_53 rfl hl (by decide) rfl (fun ls hl => ?_)
    refine ny_lp 54 4 (fun u : Nat => u ≤ mn.toNatClampNeg) (fun u => mn.toNatClampNeg - u) (fun u => [(0, .ref mo), (1, .long (f_cd (31 * f_ck hf bf 12 + mn.toInt64) mr u)), (3, .int (nI u))]) (fun u hu ih ls hl => ?_) 0 (show 0 ≤ mn.toNatClampNeg from Nat.zero_le _) (lv_sub hl [2, 1, 0] rfl)
    obtain ⟨j, rfl⟩ : ∃ z, z = u := ⟨_, rfl⟩
    have hj : j ≤ mn.toNatClampNeg := hu
    have hl : lv_has ls 4 [(0, .ref mo), (1, .long (f_cd (31 * f_ck hf bf 12 + mn.toInt64) mr j)), (3, .int (nI j))] := hl
    have hj7 : j ≤ 7 := by have := n_cl g0; omega
    refine lv_iload_n hx hb dX2_checksum_54 rfl (lv_at hl 2 rfl) ?_
    refine lv_aload_n hx hb dX2_checksum_55 rfl (lv_at hl 0 rfl) ?_
    refine va_get (D := D) (ci := 4) (v := .int mn) (C := RX2) (T := TX2) (N := 6) hx hb hts in_X2_checksum_X2 hown hK hP 0 rfl rfl 5 (by decide) (hts (.fieldLink RX2 88 "NearestclockModel" "many" "I") (List.mem_of_getElem? (i := 5) rfl)) (fun _ h9 => h9) rfl dX2_checksum_56 ?_
    refine lv_icmp_ge (tgt := 82) hx hb dX2_checksum_59 (by decide) (fun c_59 => ?_) (fun c_59 => ?_)
    · refine lv_lload_n hx hb dX2_checksum_82 rfl (lv_at hl 1 rfl) ?_
      exact W.lret (v := f_cd (31 * f_ck hf bf 12 + mn.toInt64) mr j) hx hb hr (fun t ht hW => ⟨f_cd (31 * f_ck hf bf 12 + mn.toInt64) mr j, rfl, (by rw [n_shE hj7 hj g0 c_59]), ht⟩) (fun q hq => absurd hq List.not_mem_nil) dX2_checksum_83
    · have hj2 := n_shC hj7 g0 c_59
      refine lv_ldc2 (own := RX2) (v := 31) hx hb hown (hts (.constantLong RX2 97 (31)) (List.mem_of_getElem? (i := 2) rfl)) dX2_checksum_62 ?_
      refine lv_lload_n hx hb dX2_checksum_65 rfl (lv_at hl 1 rfl) ?_
      refine lv_lmul hx hb dX2_checksum_66 ?_
      refine lv_aload_n hx hb dX2_checksum_67 rfl (lv_at hl 0 rfl) ?_
      refine va_get (D := D) (ci := 4) (v := .ref m3) (C := RX2) (T := TX2) (N := 6) hx hb hts in_X2_checksum_X2 hown hK hP 0 rfl rfl 3 (by decide) (hts (.fieldLink RX2 17 "NearestclockModel" "row" "[I") (List.mem_of_getElem? (i := 6) rfl)) (fun _ h9 => h9) rfl dX2_checksum_68 ?_
      refine lv_iload_n hx hb dX2_checksum_71 rfl (lv_at hl 2 rfl) ?_
      refine va_iald hx hb hK hP 3 0 rfl rfl (vp_in_nI (by have := n_cl g0; omega) (by decide)) dX2_checksum_72 ?_
      refine lv_i2l hx hb dX2_checksum_73 rfl ?_
      refine lv_ladd hx hb dX2_checksum_74 ?_
      refine ny_tl (x2 := f_cd (31 * f_ck hf bf 12 + mn.toInt64) mr (j + 1)) (f_cdS _ mr (by omega)) ?_
      refine lv_lstore_n (lv' := [(1, .long (f_cd (31 * f_ck hf bf 12 + mn.toInt64) mr (j + 1))), (0, .ref mo), (3, .int (nI j))]) hx hb dX2_checksum_75 rfl hl (by decide) rfl (fun ls hl => ?_)
      refine lv_iinc (v := nI (j + 1)) (lv' := [(3, .int (nI (j + 1))), (1, .long (f_cd (31 * f_ck hf bf 12 + mn.toInt64) mr (j + 1))), (0, .ref mo)]) hx hb dX2_checksum_76 hl (k := 2) rfl (n_incN j) (by decide) rfl (fun ls hl => ?_)
      refine lv_goto (tgt := 54) hx hb dX2_checksum_79 (by decide) ?_
      exact ih (j + 1) (show (j + 1) ≤ mn.toNatClampNeg from by omega) (show mn.toNatClampNeg - (j + 1) < mn.toNatClampNeg - j by omega) _ (lv_sub hl [2, 1, 0] rfl)
  · have hk2 := n_lt12 hk c_9
    refine lv_ldc2 (own := RX2) (v := 31) hx hb hown (hts (.constantLong RX2 97 (31)) (List.mem_of_getElem? (i := 2) rfl)) dX2_checksum_12 ?_
    refine lv_lload_n hx hb dX2_checksum_15 rfl (lv_at hl 1 rfl) ?_
    refine lv_lmul hx hb dX2_checksum_16 ?_
    refine lv_aload_n hx hb dX2_checksum_17 rfl (lv_at hl 0 rfl) ?_
    refine va_get (D := D) (ci := 4) (v := .ref m1) (C := RX2) (T := TX2) (N := 6) hx hb hts in_X2_checksum_X2 hown hK hP 0 rfl rfl 1 (by decide) (hts (.fieldLink RX2 7 "NearestclockModel" "eighths" "[I") (List.mem_of_getElem? (i := 3) rfl)) (fun _ h9 => h9) rfl dX2_checksum_18 ?_
    refine lv_iload_n hx hb dX2_checksum_21 rfl (lv_at hl 2 rfl) ?_
    refine va_iald hx hb hK hP 1 0 rfl rfl (vp_in_nI hk2 (by decide)) dX2_checksum_22 ?_
    refine lv_aload_n hx hb dX2_checksum_23 rfl (lv_at hl 0 rfl) ?_
    refine va_get (D := D) (ci := 4) (v := .ref m2) (C := RX2) (T := TX2) (N := 6) hx hb hts in_X2_checksum_X2 hown hK hP 0 rfl rfl 2 (by decide) (hts (.fieldLink RX2 13 "NearestclockModel" "below" "[Z") (List.mem_of_getElem? (i := 4) rfl)) (fun _ h9 => h9) rfl dX2_checksum_24 ?_
    refine lv_iload_n hx hb dX2_checksum_27 rfl (lv_at hl 2 rfl) ?_
    refine va_zald hx hb hK hP 2 1 rfl rfl (vp_in_nI hk2 (by decide)) dX2_checksum_28 ?_
    refine vp_callSl (va_Run.run (va_runS (As := [.int (hf (nI k).toNatClampNeg), .int (bf (nI k).toNatClampNeg)]) (rest := [.long (31 * (f_ck hf bf k))]) ⟨hx, hb, hml, hown, hts⟩ (c_X2_bitsOf l (hf (nI k).toNatClampNeg) (bf (nI k).toNatClampNeg) (n_kH gH hk2)) (va_cwS 2 hts gX2_checksum_X2_bitsOf rfl rfl rfl (by decide +kernel) ⟨Nat.le_of_ble_eq_true rfl, Nat.le_of_ble_eq_true rfl⟩) ⟨ny_blindT, fun U hU hW => ⟨rfl, trivial⟩⟩ rfl rfl hl.1 rfl (lv_room (Nat.le_of_ble_eq_true rfl)) dX2_checksum_29 ⟨Nat.le_of_ble_eq_true rfl, Nat.le_of_ble_eq_true rfl⟩)) (fun r_29 hw_29 => ?_)
    have hw_29 : r_29 = f_bt (hf (nI k).toNatClampNeg) (bf (nI k).toNatClampNeg) := hw_29
    subst hw_29
    refine lv_ladd hx hb dX2_checksum_32 ?_
    refine ny_tl (x2 := f_ck hf bf (k + 1)) (f_ckS hf bf hk2) ?_
    refine lv_lstore_n (lv' := [(1, .long (f_ck hf bf (k + 1))), (0, .ref mo), (3, .int (nI k))]) hx hb dX2_checksum_33 rfl hl (by decide) rfl (fun ls hl => ?_)
    refine lv_iinc (v := nI (k + 1)) (lv' := [(3, .int (nI (k + 1))), (1, .long (f_ck hf bf (k + 1))), (0, .ref mo)]) hx hb dX2_checksum_34 hl (k := 2) rfl (n_incN k) (by decide) rfl (fun ls hl => ?_)
    refine lv_goto (tgt := 6) hx hb dX2_checksum_37 (by decide) ?_
    exact ih (k + 1) (show (k + 1) ≤ 12 from by omega) (show 12 - (k + 1) < 12 - k by omega) _ (lv_sub hl [2, 1, 0] rfl)
set_option maxHeartbeats 4000000 in
set_option maxRecDepth 100000 in
theorem c_X2_isTrue (l : Launch) (D : va_G) (mo : Nat) (m1 : Nat) (m2 : Nat) (m3 : Nat) (m4 : Nat) (sz : Nat) (th : Int32) (mn : Int32) : Met l yX2_isTrue wsX2_isTrue ({ frames := 0, cells := 0, slots := 0, locals := 0 }) (va_Pc [.ref mo] (ny_pre D [] [(mo, .inr (4, [.int th, .ref m1, .ref m2, .ref m3, .ref m4, .int mn]))] sz)) (vp_Si (fun r => r = 1)) 0 0 (fun _ => False) := by
  refine Met.ofW (cc := cX2_isTrue) (maxL := 1) (ret := (some .boolean)) (by decide) rfl ?_
  intro p e s m args below meth c s₁ B hml hv
  obtain ⟨rfl, hsz, hP, hK, hD0, hE⟩ := hv
  have hx := B.exec
  have hb := B.bytes
  have hr := B.returns
  have hts := atoms_spec (ws := wsX2_isTrue) B.pre
  have hown : s.vm.findClass RX2 = some m.cls := findClass_of_methodNamed B.named
  have hlocks := B.notSynchronized
  subst hsz
  have hD := hD0.self (sz := s.heap.size)
  generalize hAe : va_A [(mo, .inr (4, [.int th, .ref m1, .ref m2, .ref m3, .ref m4, .int mn]))] s.heap.size = A at hD hE
  have hA : ∀ q : Nat, s.heap.size ≤ q → A q := fun q h => by rw [← hAe]; exact Or.inr h
  have hS : va_S A s.heap s.heap [] := va_S.rf
  have hl := lv_entry ([.ref mo]) (n := 1) (Nat.le_of_ble_eq_true rfl)
  rw [lg_entry_eq]
  generalize (lg_sl ([.ref mo]) ++ List.replicate (1 - (lg_sl ([.ref mo])).length) Slot.unset).toArray = ls at hl ⊢
  have hl : lv_has ls 1 [(0, .ref mo)] := hl
  refine lv_iconst (v := 1) hx hb dX2_isTrue_0 (by decide) ?_
  exact W.zret (v := 1) hx hb hr (by decide) (fun t ht hW => ⟨1, rfl, (rfl), ht⟩) (fun q hq => absurd hq List.not_mem_nil) dX2_isTrue_1
theorem in_X2_init_X2 : ∀ w ∈ wsX20, w ∈ wsX2_init := (fun _ h => List.mem_cons_of_mem _ (List.mem_append_right _ h))
set_option maxHeartbeats 4000000 in
set_option maxRecDepth 100000 in
theorem c_X2_init (l : Launch) (D : va_G) (mo : Nat) (sz : Nat) : Met l yX2_init wsX2_init ({ frames := 1, cells := 4, slots := 56, locals := 20 }) (va_Pc [.ref mo] (ny_pre D [] [(mo, .inr (4, [.int 0, .null, .null, .null, .null, .int 0]))] sz)) (va_Qv (fun (u : Nat × Nat × Nat × Nat × ClassId × ClassId) => True) (fun (u : Nat × Nat × Nat × Nat × ClassId × ClassId) t => ny_at D [(u.2.2.2.2.1, .int), (u.2.2.2.2.2, .boolean)] (va_A [(mo, .inr (4, [.int 0, .null, .null, .null, .null, .int 0]))] sz) [(mo, .inr (4, [.int 0, .ref u.1, .ref u.2.1, .ref u.2.2.1, .ref u.2.2.2.1, .int 0])), (u.1, .inl (u.2.2.2.2.1, 12, .inl (fun _ => 0))), (u.2.1, .inl (u.2.2.2.2.2, 12, .inl (fun _ => 0))), (u.2.2.1, .inl (u.2.2.2.2.1, 16, .inl (fun _ => 0))), (u.2.2.2.1, .inl (u.2.2.2.2.1, 16, .inl (fun _ => 0)))] t) (va_A [(mo, .inr (4, [.int 0, .null, .null, .null, .null, .int 0]))] sz)) 4 56 (va_A [(mo, .inr (4, [.int 0, .null, .null, .null, .null, .int 0]))] sz) := by
  refine Met.ofW (cc := cX2_init) (maxL := 1) (ret := none) (by decide) rfl ?_
  intro p e s m args below meth c s₁ B hml hv
  obtain ⟨rfl, hsz, hP, hK, hD0, hE⟩ := hv
  have hx := B.exec
  have hb := B.bytes
  have hr := B.returns
  have hts := atoms_spec (ws := wsX2_init) B.pre
  have hown : s.vm.findClass RX2 = some m.cls := findClass_of_methodNamed B.named
  have hlocks := B.notSynchronized
  have hin : meth.name = "<init>" := (name_of_methodNamed B.named B.method).1
  subst hsz
  have hD := hD0.self (sz := s.heap.size)
  generalize hAe : va_A [(mo, .inr (4, [.int 0, .null, .null, .null, .null, .int 0]))] s.heap.size = A at hD hE ⊢
  have hA : ∀ q : Nat, s.heap.size ≤ q → A q := fun q h => by rw [← hAe]; exact Or.inr h
  have hS : va_S A s.heap s.heap [] := va_S.rf
  have hl := lv_entry ([.ref mo]) (n := 1) (Nat.le_of_ble_eq_true rfl)
  rw [lg_entry_eq]
  generalize (lg_sl ([.ref mo]) ++ List.replicate (1 - (lg_sl ([.ref mo])).length) Slot.unset).toArray = ls at hl ⊢
  have hl : lv_has ls 1 [(0, .ref mo)] := hl
  refine lv_aload_n hx hb dX2_init_0 rfl (lv_at hl 0 rfl) ?_
  refine W.objInit hx hb hown (hts (.methodLink RX2 1 objectInit) (List.mem_of_getElem? (i := 1) rfl)) (hts (.instanceMethod objectInit) (List.mem_of_getElem? (i := 2) rfl)) (hts (.code objectInit ⟨#[0xb1]⟩ 1 none) (List.mem_of_getElem? (i := 3) rfl)) rfl (by rw [hml]; exact hl.1) rfl dX2_init_1 (Nat.le_of_ble_eq_true rfl) (Nat.le_of_ble_eq_true rfl) ?_
  refine W.eq (g2 := F0 m 4 ls []) rfl ?_
  refine lv_aload_n hx hb dX2_init_4 rfl (lv_at hl 0 rfl) ?_
  refine lv_bipush (v := 12) hx hb dX2_init_5 (by decide) ?_
  refine va_newa (atype := .int) (ty := .int) (N' := 12) (a0 := (12, .inl (fun _ => 0))) hx hb (hts (.arrayClass .int) (List.mem_of_getElem? (i := 4) rfl)) rfl hK hP hD hS hA (fun cA => rfl) (by decide) (by decide) (show 12 * 4 ≤ 536870912 by omega) (Nat.le_of_ble_eq_true rfl) (Nat.le_of_ble_eq_true rfl) dX2_init_7 (fun ny_a7 ny_c7 H hK hP hD hS => ?_)
  have hK : va_K D vwCl [(ny_c7, .int)] s := hK
  have hP : va_P D vwCl [(mo, .inr (4, [.int 0, .null, .null, .null, .null, .int 0])), (ny_a7, .inl (ny_c7, 12, .inl (fun _ => 0)))] H := hP
  have hD : va_D A [(mo, .inr (4, [.int 0, .null, .null, .null, .null, .int 0])), (ny_a7, .inl (ny_c7, 12, .inl (fun _ => 0)))] := hD
  refine va_putF (D := D) (ci := 4) (v := .ref ny_a7) (ty := .array .int) (C := RX2) (T := TX2) (N := 6) hx hb hts in_X2_init_X2 tyX2 tyX2_ok nmX2 hown hK hP hD hS 0 rfl rfl 1 (by decide) (hts (.fieldLink RX2 7 "NearestclockModel" "eighths" "[I") (List.mem_of_getElem? (i := 5) rfl)) (fun _ h9 => h9) rfl hin rfl (by decide +kernel) rfl rfl (Nat.le_of_ble_eq_true rfl) dX2_init_9 (fun H locs hP hD hS => ?_)
  have hP : va_P D vwCl [(mo, .inr (4, [.int 0, .ref ny_a7, .null, .null, .null, .int 0])), (ny_a7, .inl (ny_c7, 12, .inl (fun _ => 0)))] H := hP
  have hD : va_D A [(mo, .inr (4, [.int 0, .ref ny_a7, .null, .null, .null, .int 0])), (ny_a7, .inl (ny_c7, 12, .inl (fun _ => 0)))] := hD
  refine lv_aload_n hx hb dX2_init_12 rfl (lv_at hl 0 rfl) ?_
  refine lv_bipush (v := 12) hx hb dX2_init_13 (by decide) ?_
  refine va_newa (atype := .boolean) (ty := .boolean) (N' := 12) (a0 := (12, .inl (fun _ => 0))) hx hb (hts (.arrayClass .boolean) (List.mem_of_getElem? (i := 6) rfl)) rfl hK hP hD hS hA (fun cA => rfl) (by decide) (by decide) (show 12 * 1 ≤ 536870912 by omega) (Nat.le_of_ble_eq_true rfl) (Nat.le_of_ble_eq_true rfl) dX2_init_15 (fun ny_a15 ny_c15 H hK hP hD hS => ?_)
  have hK : va_K D vwCl [(ny_c7, .int), (ny_c15, .boolean)] s := hK
  have hP : va_P D vwCl [(mo, .inr (4, [.int 0, .ref ny_a7, .null, .null, .null, .int 0])), (ny_a7, .inl (ny_c7, 12, .inl (fun _ => 0))), (ny_a15, .inl (ny_c15, 12, .inl (fun _ => 0)))] H := hP
  have hD : va_D A [(mo, .inr (4, [.int 0, .ref ny_a7, .null, .null, .null, .int 0])), (ny_a7, .inl (ny_c7, 12, .inl (fun _ => 0))), (ny_a15, .inl (ny_c15, 12, .inl (fun _ => 0)))] := hD
  refine va_putF (D := D) (ci := 4) (v := .ref ny_a15) (ty := .array .boolean) (C := RX2) (T := TX2) (N := 6) hx hb hts in_X2_init_X2 tyX2 tyX2_ok nmX2 hown hK hP hD hS 0 rfl rfl 2 (by decide) (hts (.fieldLink RX2 13 "NearestclockModel" "below" "[Z") (List.mem_of_getElem? (i := 7) rfl)) (fun _ h9 => h9) rfl hin rfl (by decide +kernel) rfl rfl (Nat.le_of_ble_eq_true rfl) dX2_init_17 (fun H locs hP hD hS => ?_)
  have hP : va_P D vwCl [(mo, .inr (4, [.int 0, .ref ny_a7, .ref ny_a15, .null, .null, .int 0])), (ny_a7, .inl (ny_c7, 12, .inl (fun _ => 0))), (ny_a15, .inl (ny_c15, 12, .inl (fun _ => 0)))] H := hP
  have hD : va_D A [(mo, .inr (4, [.int 0, .ref ny_a7, .ref ny_a15, .null, .null, .int 0])), (ny_a7, .inl (ny_c7, 12, .inl (fun _ => 0))), (ny_a15, .inl (ny_c15, 12, .inl (fun _ => 0)))] := hD
  refine lv_aload_n hx hb dX2_init_20 rfl (lv_at hl 0 rfl) ?_
  refine lv_bipush (v := 16) hx hb dX2_init_21 (by decide) ?_
  refine va_newa (atype := .int) (ty := .int) (N' := 16) (a0 := (16, .inl (fun _ => 0))) hx hb (hts (.arrayClass .int) (List.mem_of_getElem? (i := 4) rfl)) rfl hK hP hD hS hA (fun cA => rfl) (by decide) (by decide) (show 16 * 4 ≤ 536870912 by omega) (Nat.le_of_ble_eq_true rfl) (Nat.le_of_ble_eq_true rfl) dX2_init_23 (fun ny_a23 ny_c23 H hK hP hD hS => ?_)
  have hK : va_K D vwCl [(ny_c7, .int), (ny_c15, .boolean), (ny_c23, .int)] s := hK
  have hP : va_P D vwCl [(mo, .inr (4, [.int 0, .ref ny_a7, .ref ny_a15, .null, .null, .int 0])), (ny_a7, .inl (ny_c7, 12, .inl (fun _ => 0))), (ny_a15, .inl (ny_c15, 12, .inl (fun _ => 0))), (ny_a23, .inl (ny_c23, 16, .inl (fun _ => 0)))] H := hP
  have hD : va_D A [(mo, .inr (4, [.int 0, .ref ny_a7, .ref ny_a15, .null, .null, .int 0])), (ny_a7, .inl (ny_c7, 12, .inl (fun _ => 0))), (ny_a15, .inl (ny_c15, 12, .inl (fun _ => 0))), (ny_a23, .inl (ny_c23, 16, .inl (fun _ => 0)))] := hD
  refine va_putF (D := D) (ci := 4) (v := .ref ny_a23) (ty := .array .int) (C := RX2) (T := TX2) (N := 6) hx hb hts in_X2_init_X2 tyX2 tyX2_ok nmX2 hown hK hP hD hS 0 rfl rfl 3 (by decide) (hts (.fieldLink RX2 17 "NearestclockModel" "row" "[I") (List.mem_of_getElem? (i := 8) rfl)) (fun _ h9 => h9) rfl hin rfl (by decide +kernel) rfl rfl (Nat.le_of_ble_eq_true rfl) dX2_init_25 (fun H locs hP hD hS => ?_)
  have hP : va_P D vwCl [(mo, .inr (4, [.int 0, .ref ny_a7, .ref ny_a15, .ref ny_a23, .null, .int 0])), (ny_a7, .inl (ny_c7, 12, .inl (fun _ => 0))), (ny_a15, .inl (ny_c15, 12, .inl (fun _ => 0))), (ny_a23, .inl (ny_c23, 16, .inl (fun _ => 0)))] H := hP
  have hD : va_D A [(mo, .inr (4, [.int 0, .ref ny_a7, .ref ny_a15, .ref ny_a23, .null, .int 0])), (ny_a7, .inl (ny_c7, 12, .inl (fun _ => 0))), (ny_a15, .inl (ny_c15, 12, .inl (fun _ => 0))), (ny_a23, .inl (ny_c23, 16, .inl (fun _ => 0)))] := hD
  refine lv_aload_n hx hb dX2_init_28 rfl (lv_at hl 0 rfl) ?_
  refine lv_bipush (v := 16) hx hb dX2_init_29 (by decide) ?_
  refine va_newa (atype := .int) (ty := .int) (N' := 16) (a0 := (16, .inl (fun _ => 0))) hx hb (hts (.arrayClass .int) (List.mem_of_getElem? (i := 4) rfl)) rfl hK hP hD hS hA (fun cA => rfl) (by decide) (by decide) (show 16 * 4 ≤ 536870912 by omega) (Nat.le_of_ble_eq_true rfl) (Nat.le_of_ble_eq_true rfl) dX2_init_31 (fun ny_a31 ny_c31 H hK hP hD hS => ?_)
  have hK : va_K D vwCl [(ny_c7, .int), (ny_c15, .boolean), (ny_c23, .int), (ny_c31, .int)] s := hK
  have hP : va_P D vwCl [(mo, .inr (4, [.int 0, .ref ny_a7, .ref ny_a15, .ref ny_a23, .null, .int 0])), (ny_a7, .inl (ny_c7, 12, .inl (fun _ => 0))), (ny_a15, .inl (ny_c15, 12, .inl (fun _ => 0))), (ny_a23, .inl (ny_c23, 16, .inl (fun _ => 0))), (ny_a31, .inl (ny_c31, 16, .inl (fun _ => 0)))] H := hP
  have hD : va_D A [(mo, .inr (4, [.int 0, .ref ny_a7, .ref ny_a15, .ref ny_a23, .null, .int 0])), (ny_a7, .inl (ny_c7, 12, .inl (fun _ => 0))), (ny_a15, .inl (ny_c15, 12, .inl (fun _ => 0))), (ny_a23, .inl (ny_c23, 16, .inl (fun _ => 0))), (ny_a31, .inl (ny_c31, 16, .inl (fun _ => 0)))] := hD
  refine va_putF (D := D) (ci := 4) (v := .ref ny_a31) (ty := .array .int) (C := RX2) (T := TX2) (N := 6) hx hb hts in_X2_init_X2 tyX2 tyX2_ok nmX2 hown hK hP hD hS 0 rfl rfl 4 (by decide) (hts (.fieldLink RX2 20 "NearestclockModel" "taken" "[I") (List.mem_of_getElem? (i := 9) rfl)) (fun _ h9 => h9) rfl hin rfl (by decide +kernel) rfl rfl (Nat.le_of_ble_eq_true rfl) dX2_init_33 (fun H locs hP hD hS => ?_)
  have hP : va_P D vwCl [(mo, .inr (4, [.int 0, .ref ny_a7, .ref ny_a15, .ref ny_a23, .ref ny_a31, .int 0])), (ny_a7, .inl (ny_c7, 12, .inl (fun _ => 0))), (ny_a15, .inl (ny_c15, 12, .inl (fun _ => 0))), (ny_a23, .inl (ny_c23, 16, .inl (fun _ => 0))), (ny_a31, .inl (ny_c31, 16, .inl (fun _ => 0)))] H := hP
  have hD : va_D A [(mo, .inr (4, [.int 0, .ref ny_a7, .ref ny_a15, .ref ny_a23, .ref ny_a31, .int 0])), (ny_a7, .inl (ny_c7, 12, .inl (fun _ => 0))), (ny_a15, .inl (ny_c15, 12, .inl (fun _ => 0))), (ny_a23, .inl (ny_c23, 16, .inl (fun _ => 0))), (ny_a31, .inl (ny_c31, 16, .inl (fun _ => 0)))] := hD
  have e_ny_c23 : ny_c7 = ny_c23 := (ny_oneI hK 0 2 rfl rfl).symm
  subst e_ny_c23
  have e_ny_c31 : ny_c7 = ny_c31 := (ny_oneI hK 0 3 rfl rfl).symm
  subst e_ny_c31
  have hP9 := hP.sub (ws' := [(mo, .inr (4, [.int 0, .ref ny_a7, .ref ny_a15, .ref ny_a23, .ref ny_a31, .int 0])), (ny_a7, .inl (ny_c7, 12, .inl (fun _ => 0))), (ny_a15, .inl (ny_c15, 12, .inl (fun _ => 0))), (ny_a23, .inl (ny_c7, 16, .inl (fun _ => 0))), (ny_a31, .inl (ny_c7, 16, .inl (fun _ => 0)))]) [0, 1, 2, 3, 4] rfl
  have hD9 := hD.sub (ws' := [(mo, .inr (4, [.int 0, .ref ny_a7, .ref ny_a15, .ref ny_a23, .ref ny_a31, .int 0])), (ny_a7, .inl (ny_c7, 12, .inl (fun _ => 0))), (ny_a15, .inl (ny_c15, 12, .inl (fun _ => 0))), (ny_a23, .inl (ny_c7, 16, .inl (fun _ => 0))), (ny_a31, .inl (ny_c7, 16, .inl (fun _ => 0)))]) [0, 1, 2, 3, 4] (by decide) rfl
  have hK := hK.sub (tys' := [(ny_c7, .int), (ny_c15, .boolean)]) [0, 1] rfl
  refine W.widen (k := 4) (n := 56) (Nat.le_of_ble_eq_true rfl) (Nat.le_of_ble_eq_true rfl) ?_
  exact W.vret hx hb hr (fun t ht hW => ⟨⟨(ny_a7, ny_a15, ny_a23, ny_a31, ny_c7, ny_c15), rfl, (trivial), by rw [ht]; exact hP9, va_K.moved hW.alike hK, hD9⟩, hS.F ht⟩) hS.2.2 dX2_init_36

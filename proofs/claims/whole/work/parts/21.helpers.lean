/-! THE LAW's HELPERS, by contract: what the class answers or throws. -/
theorem n_qt1 {P : Prop} [Decidable P] (c : ¬ (if P then (1 : Int32) else 0) = 0) : (1 : Int64) = (if P then (1 : Int32) else 0).toInt64 := by
  by_cases h : P
  · rw [if_pos h]; rfl
  · rw [if_neg h] at c; exact absurd rfl c
theorem n_qt0 {P : Prop} [Decidable P] (c : (if P then (1 : Int32) else 0) = 0) : (0 : Int64) = (if P then (1 : Int32) else 0).toInt64 := by
  rw [c]; rfl
set_option maxHeartbeats 4000000 in
set_option maxRecDepth 100000 in
theorem c_L_put (l : Launch) (D : va_G) (cI : ClassId) (cZ : ClassId) (o : Nat) (q1 : Nat) (q2 : Nat) (q3 : Nat) (q4 : Nat) (sz : Nat) (hf : Nat → Int32) (bf : Nat → Int32) (i0 : Int32) (i1 : Int32) (cL : ClassId) (qL : Nat) (lf : Nat → Int64) (gp0 : vp_in i0 12) (ge : ny_R i1) (gH : ny_H hf) : Met l yL_put wsL_put ({ frames := 5, cells := 0, slots := 0, locals := 119 }) (va_Pc [.ref o, .int i0, .int i1, .ref qL] (ny_pre D [(cI, .int), (cZ, .boolean), (cL, .long)] [(o, .inr (3, [.ref q1, .ref q2, .ref q3, .ref q4])), (q1, .inl (cI, 12, .inl hf)), (q2, .inl (cZ, 12, .inl bf)), (qL, .inl (cL, 1, .inr (.inl lf)))] sz)) (va_Qi (fun (r : Int32) (u : Unit) => r = 0) (fun (u : Unit) t => ny_at D [(cI, .int), (cZ, .boolean), (cL, .long)] (va_A [(o, .inr (3, [.ref q1, .ref q2, .ref q3, .ref q4])), (q1, .inl (cI, 12, .inl hf)), (q2, .inl (cZ, 12, .inl bf)), (qL, .inl (cL, 1, .inr (.inl lf)))] sz) [(o, .inr (3, [.ref q1, .ref q2, .ref q3, .ref q4])), (q1, .inl (cI, 12, .inl (upd hf i0.toNatClampNeg i1))), (q2, .inl (cZ, 12, .inl (upd bf i0.toNatClampNeg 0))), (qL, .inl (cL, 1, .inr (.inl (vp_updL lf (0 : Int32).toNatClampNeg (f_bt (hf i0.toNatClampNeg) (bf i0.toNatClampNeg))))))] t) (va_A [(o, .inr (3, [.ref q1, .ref q2, .ref q3, .ref q4])), (q1, .inl (cI, 12, .inl hf)), (q2, .inl (cZ, 12, .inl bf)), (qL, .inl (cL, 1, .inr (.inl lf)))] sz)) 0 0 (va_A [(o, .inr (3, [.ref q1, .ref q2, .ref q3, .ref q4])), (q1, .inl (cI, 12, .inl hf)), (q2, .inl (cZ, 12, .inl bf)), (qL, .inl (cL, 1, .inr (.inl lf)))] sz) := by
  refine va_MetW (cc := cL_put) (maxL := 5) (ret := (some .int)) (by decide) rfl ?_
  intro p e s m args below meth c s₁ B hml hv
  obtain ⟨rfl, hsz, hP, hK, hD0, hE⟩ := hv
  have hx := B.exec
  have hb := B.bytes
  have hr := B.returns
  have hts := atoms_spec (ws := wsL_put) B.pre
  have hown : s.vm.findClass RL = some m.cls := findClass_of_methodNamed B.named
  have hlocks := B.notSynchronized
  have htab := vx_table (x := yL_put) B (hts _ List.mem_cons_self)
  subst hsz
  have hD := hD0.self (sz := s.heap.size)
  generalize hAe : va_A [(o, .inr (3, [.ref q1, .ref q2, .ref q3, .ref q4])), (q1, .inl (cI, 12, .inl hf)), (q2, .inl (cZ, 12, .inl bf)), (qL, .inl (cL, 1, .inr (.inl lf)))] s.heap.size = A at hD hE ⊢
  have hA : ∀ q : Nat, s.heap.size ≤ q → A q := fun q h => by rw [← hAe]; exact Or.inr h
  have hS : va_S A s.heap s.heap [] := va_S.rf
  have hl := lv_entry ([.ref o, .int i0, .int i1, .ref qL]) (n := 5) (Nat.le_of_ble_eq_true rfl)
  rw [lg_entry_eq]
  generalize (lg_sl ([.ref o, .int i0, .int i1, .ref qL]) ++ List.replicate (5 - (lg_sl ([.ref o, .int i0, .int i1, .ref qL])).length) Slot.unset).toArray = ls at hl ⊢
  have hl : lv_has ls 5 [(0, .ref o), (1, .int i0), (2, .int i1), (3, .ref qL)] := hl
  refine lv_aload_n hx hb dL_put_0 rfl (lv_at hl 3 rfl) ?_
  refine lv_iconst (v := 0) hx hb dL_put_1 (by decide) ?_
  refine lv_aload_n hx hb dL_put_2 rfl (lv_at hl 0 rfl) ?_
  refine lv_iload_n hx hb dL_put_3 rfl (lv_at hl 1 rfl) ?_
  refine lv_iload_n hx hb dL_put_4 rfl (lv_at hl 2 rfl) ?_
  refine ny_l (wc := [(o, .inr (3, [.ref q1, .ref q2, .ref q3, .ref q4])), (q1, .inl (cI, 12, .inl hf)), (q2, .inl (cZ, 12, .inl bf))]) (wr := [(qL, .inl (cL, 1, .inr (.inl lf)))]) hP hD hS hA [0, 1, 2] [3] rfl rfl (by decide) (by decide) (va_runV (As := [.int i0, .int i1]) (rest := [.int 0, .ref qL]) ⟨hx, hb, hml, hown, hts⟩ (c_X1_put l D cI cZ o q1 q2 q3 q4 s.heap.size hf bf i0 i1 (by assumption) (by assumption) (by assumption)) (cwV 2 hts gL_put_X1_put rfl rfl rfl (by decide +kernel) ⟨Nat.le_of_ble_eq_true rfl, Nat.le_of_ble_eq_true rfl⟩) ⟨ny_blind, va_recv hK hP (ci := 3) (q0 := 0) rfl rfl, fun U hU hW => ⟨rfl, ny_preU hE hP hK hD hS hA [0, 1, 2] rfl (by decide) rfl [0, 1] rfl U hU hW⟩⟩ rfl rfl hl.1 rfl (lv_room (Nat.le_of_ble_eq_true rfl)) dL_put_5 ⟨Nat.le_of_ble_eq_true rfl, Nat.le_of_ble_eq_true rfl⟩) (fun r_5 u H locs hw_5 hP hD hS => ?_)
  have hP : va_P D vwCl [(qL, .inl (cL, 1, .inr (.inl lf))), (o, .inr (3, [.ref q1, .ref q2, .ref q3, .ref q4])), (q1, .inl (cI, 12, .inl (upd hf i0.toNatClampNeg i1))), (q2, .inl (cZ, 12, .inl (upd bf i0.toNatClampNeg 0)))] H := hP
  have hD : va_D A [(qL, .inl (cL, 1, .inr (.inl lf))), (o, .inr (3, [.ref q1, .ref q2, .ref q3, .ref q4])), (q1, .inl (cI, 12, .inl (upd hf i0.toNatClampNeg i1))), (q2, .inl (cZ, 12, .inl (upd bf i0.toNatClampNeg 0)))] := hD
  have hw_5 : r_5 = f_bt (hf i0.toNatClampNeg) (bf i0.toNatClampNeg) := hw_5
  subst hw_5
  refine va_last hx hb hK hP hD hS 0 2 rfl rfl (vp_in_iff.mpr (by decide)) dL_put_8 (fun H locs hP hD hS => ?_)
  have hP : va_P D vwCl [(qL, .inl (cL, 1, .inr (.inl (vp_updL lf (0 : Int32).toNatClampNeg (f_bt (hf i0.toNatClampNeg) (bf i0.toNatClampNeg)))))), (o, .inr (3, [.ref q1, .ref q2, .ref q3, .ref q4])), (q1, .inl (cI, 12, .inl (upd hf i0.toNatClampNeg i1))), (q2, .inl (cZ, 12, .inl (upd bf i0.toNatClampNeg 0)))] H := hP
  have hD : va_D A [(qL, .inl (cL, 1, .inr (.inl (vp_updL lf (0 : Int32).toNatClampNeg (f_bt (hf i0.toNatClampNeg) (bf i0.toNatClampNeg)))))), (o, .inr (3, [.ref q1, .ref q2, .ref q3, .ref q4])), (q1, .inl (cI, 12, .inl (upd hf i0.toNatClampNeg i1))), (q2, .inl (cZ, 12, .inl (upd bf i0.toNatClampNeg 0)))] := hD
  refine lv_goto (tgt := 20) hx hb dL_put_9 (by decide) ?_
  refine lv_iconst (v := 0) hx hb dL_put_20 (by decide) ?_
  have hP9 := hP.sub (ws' := [(o, .inr (3, [.ref q1, .ref q2, .ref q3, .ref q4])), (q1, .inl (cI, 12, .inl (upd hf i0.toNatClampNeg i1))), (q2, .inl (cZ, 12, .inl (upd bf i0.toNatClampNeg 0))), (qL, .inl (cL, 1, .inr (.inl (vp_updL lf (0 : Int32).toNatClampNeg (f_bt (hf i0.toNatClampNeg) (bf i0.toNatClampNeg))))))]) [1, 2, 3, 0] rfl
  have hD9 := hD.sub (ws' := [(o, .inr (3, [.ref q1, .ref q2, .ref q3, .ref q4])), (q1, .inl (cI, 12, .inl (upd hf i0.toNatClampNeg i1))), (q2, .inl (cZ, 12, .inl (upd bf i0.toNatClampNeg 0))), (qL, .inl (cL, 1, .inr (.inl (vp_updL lf (0 : Int32).toNatClampNeg (f_bt (hf i0.toNatClampNeg) (bf i0.toNatClampNeg))))))]) [1, 2, 3, 0] (by decide) rfl
  exact W.iret (v := 0) hx hb hr (fun t ht hW => ⟨⟨0, (), rfl, (rfl), by rw [ht]; exact hP9, va_K.moved hW.alike hK, hD9⟩, hS.F ht⟩) hS.2.2 dL_put_21
set_option maxHeartbeats 4000000 in
set_option maxRecDepth 100000 in
theorem c_L_put_noP (l : Launch) (D : va_G) (cI : ClassId) (cZ : ClassId) (o : Nat) (q1 : Nat) (q2 : Nat) (q3 : Nat) (q4 : Nat) (sz : Nat) (hf : Nat → Int32) (bf : Nat → Int32) (i0 : Int32) (i1 : Int32) (cL : ClassId) (qL : Nat) (lf : Nat → Int64) (gl : l.stackTraces = false) (gb : ¬ vp_in i0 12) : Met l yL_put wsL_put ({ frames := 8, cells := 1, slots := 6, locals := 134 }) (va_Pc [.ref o, .int i0, .int i1, .ref qL] (ny_pre D [(cI, .int), (cZ, .boolean), (cL, .long)] [(o, .inr (3, [.ref q1, .ref q2, .ref q3, .ref q4])), (q1, .inl (cI, 12, .inl hf)), (q2, .inl (cZ, 12, .inl bf)), (qL, .inl (cL, 1, .inr (.inl lf)))] sz)) (va_Qi (fun (r : Int32) (u : Unit) => r = 1) (fun (u : Unit) t => ny_at D [(cI, .int), (cZ, .boolean), (cL, .long)] (va_A [(o, .inr (3, [.ref q1, .ref q2, .ref q3, .ref q4])), (q1, .inl (cI, 12, .inl hf)), (q2, .inl (cZ, 12, .inl bf)), (qL, .inl (cL, 1, .inr (.inl lf)))] sz) [(o, .inr (3, [.ref q1, .ref q2, .ref q3, .ref q4])), (q1, .inl (cI, 12, .inl hf)), (q2, .inl (cZ, 12, .inl bf)), (qL, .inl (cL, 1, .inr (.inl lf)))] t) (va_A [(o, .inr (3, [.ref q1, .ref q2, .ref q3, .ref q4])), (q1, .inl (cI, 12, .inl hf)), (q2, .inl (cZ, 12, .inl bf)), (qL, .inl (cL, 1, .inr (.inl lf)))] sz)) 1 6 (va_A [(o, .inr (3, [.ref q1, .ref q2, .ref q3, .ref q4])), (q1, .inl (cI, 12, .inl hf)), (q2, .inl (cZ, 12, .inl bf)), (qL, .inl (cL, 1, .inr (.inl lf)))] sz) := by
  refine va_MetW (cc := cL_put) (maxL := 5) (ret := (some .int)) (by decide) rfl ?_
  intro p e s m args below meth c s₁ B hml hv
  obtain ⟨rfl, hsz, hP, hK, hD0, hE⟩ := hv
  have hx := B.exec
  have hb := B.bytes
  have hr := B.returns
  have hts := atoms_spec (ws := wsL_put) B.pre
  have hown : s.vm.findClass RL = some m.cls := findClass_of_methodNamed B.named
  have hlocks := B.notSynchronized
  have htab := vx_table (x := yL_put) B (hts _ List.mem_cons_self)
  subst hsz
  have hD := hD0.self (sz := s.heap.size)
  generalize hAe : va_A [(o, .inr (3, [.ref q1, .ref q2, .ref q3, .ref q4])), (q1, .inl (cI, 12, .inl hf)), (q2, .inl (cZ, 12, .inl bf)), (qL, .inl (cL, 1, .inr (.inl lf)))] s.heap.size = A at hD hE ⊢
  have hA : ∀ q : Nat, s.heap.size ≤ q → A q := fun q h => by rw [← hAe]; exact Or.inr h
  have hS : va_S A s.heap s.heap [] := va_S.rf
  have hl := lv_entry ([.ref o, .int i0, .int i1, .ref qL]) (n := 5) (Nat.le_of_ble_eq_true rfl)
  rw [lg_entry_eq]
  generalize (lg_sl ([.ref o, .int i0, .int i1, .ref qL]) ++ List.replicate (5 - (lg_sl ([.ref o, .int i0, .int i1, .ref qL])).length) Slot.unset).toArray = ls at hl ⊢
  have hl : lv_has ls 5 [(0, .ref o), (1, .int i0), (2, .int i1), (3, .ref qL)] := hl
  refine lv_aload_n hx hb dL_put_0 rfl (lv_at hl 3 rfl) ?_
  refine lv_iconst (v := 0) hx hb dL_put_1 (by decide) ?_
  refine lv_aload_n hx hb dL_put_2 rfl (lv_at hl 0 rfl) ?_
  refine lv_iload_n hx hb dL_put_3 rfl (lv_at hl 1 rfl) ?_
  refine lv_iload_n hx hb dL_put_4 rfl (lv_at hl 2 rfl) ?_
  refine ny_x hS (va_free (wc := [(o, .inr (3, [.ref q1, .ref q2, .ref q3, .ref q4])), (q1, .inl (cI, 12, .inl hf)), (q2, .inl (cZ, 12, .inl bf))]) hD hS hA [0, 1, 2] rfl) (vx_runV (As := [.int i0, .int i1]) (rest := [.int 0, .ref qL]) ⟨hx, hb, hml, hown, hts⟩ (c_X1_put_noP l D cI cZ o q1 q2 q3 q4 s.heap.size hf bf i0 i1 (by assumption) (by assumption)) (cwV 2 hts gL_put_X1_put rfl rfl rfl (by decide +kernel) ⟨Nat.le_of_ble_eq_true rfl, Nat.le_of_ble_eq_true rfl⟩) ⟨ny_blind, va_recv hK hP (ci := 3) (q0 := 0) rfl rfl, fun U hU hW => ⟨rfl, ny_preU hE hP hK hD hS hA [0, 1, 2] rfl (by decide) rfl [0, 1] rfl U hU hW⟩⟩ rfl rfl hl.1 rfl (lv_room (Nat.le_of_ble_eq_true rfl)) dL_put_5 ⟨Nat.le_of_ble_eq_true rfl, Nat.le_of_ble_eq_true rfl⟩) (fun ce q9 H locs hz9 hk9 hS hc9 hv9 hn9 => ?_)
  have hP : va_P D vwCl [(o, .inr (3, [.ref q1, .ref q2, .ref q3, .ref q4])), (q1, .inl (cI, 12, .inl hf)), (q2, .inl (cZ, 12, .inl bf)), (qL, .inl (cL, 1, .inr (.inl lf)))] H := ny_keep hP hk9
  refine vx_catch (own := RL) (name := ny_IO) (E := ny_IO) hown (tableOf []) ⟨0, 9, 12, 13⟩ (tableOf [(0, 9, 16, 15)]) (htab.trans rfl) (fun z hz => absurd hz List.not_mem_nil) (by decide) (by decide) (hts (.classLink RL 13 "java/lang/IndexOutOfBoundsException") (List.mem_of_getElem? (i := 1) rfl)) (va_Nw.use rfl (hE.2.2.2.2.1 _ (List.mem_of_getElem? (i := 0) rfl))) hc9 hv9 hn9 ?_
  refine W.eq (g2 := F0 m 12 ls [.ref q9]) rfl ?_
  refine lv_astore (lv' := [(4, .ref q9), (0, .ref o), (1, .int i0), (2, .int i1), (3, .ref qL)]) hx hb dL_put_12 hl (by decide) rfl (fun ls hl => ?_)
  refine lv_iconst (v := 1) hx hb dL_put_14 (by decide) ?_
  have hP9 := hP.sub (ws' := [(o, .inr (3, [.ref q1, .ref q2, .ref q3, .ref q4])), (q1, .inl (cI, 12, .inl hf)), (q2, .inl (cZ, 12, .inl bf)), (qL, .inl (cL, 1, .inr (.inl lf)))]) [0, 1, 2, 3] rfl
  have hD9 := hD.sub (ws' := [(o, .inr (3, [.ref q1, .ref q2, .ref q3, .ref q4])), (q1, .inl (cI, 12, .inl hf)), (q2, .inl (cZ, 12, .inl bf)), (qL, .inl (cL, 1, .inr (.inl lf)))]) [0, 1, 2, 3] (by decide) rfl
  refine W.widen (k := 1) (n := 6) (Nat.le_of_ble_eq_true rfl) (Nat.le_of_ble_eq_true rfl) ?_
  exact W.iret (v := 1) hx hb hr (fun t ht hW => ⟨⟨1, (), rfl, (rfl), by rw [ht]; exact hP9, va_K.moved hW.alike hK, hD9⟩, hS.F ht⟩) hS.2.2 dL_put_15
set_option maxHeartbeats 4000000 in
set_option maxRecDepth 100000 in
theorem c_L_put_noA (l : Launch) (D : va_G) (cI : ClassId) (cZ : ClassId) (o : Nat) (q1 : Nat) (q2 : Nat) (q3 : Nat) (q4 : Nat) (sz : Nat) (hf : Nat → Int32) (bf : Nat → Int32) (i0 : Int32) (i1 : Int32) (cL : ClassId) (qL : Nat) (lf : Nat → Int64) (gl : l.stackTraces = false) (gp0 : vp_in i0 12) (ge : ¬ ny_R i1) : Met l yL_put wsL_put ({ frames := 7, cells := 1, slots := 6, locals := 114 }) (va_Pc [.ref o, .int i0, .int i1, .ref qL] (ny_pre D [(cI, .int), (cZ, .boolean), (cL, .long)] [(o, .inr (3, [.ref q1, .ref q2, .ref q3, .ref q4])), (q1, .inl (cI, 12, .inl hf)), (q2, .inl (cZ, 12, .inl bf)), (qL, .inl (cL, 1, .inr (.inl lf)))] sz)) (va_Qi (fun (r : Int32) (u : Unit) => r = 2) (fun (u : Unit) t => ny_at D [(cI, .int), (cZ, .boolean), (cL, .long)] (va_A [(o, .inr (3, [.ref q1, .ref q2, .ref q3, .ref q4])), (q1, .inl (cI, 12, .inl hf)), (q2, .inl (cZ, 12, .inl bf)), (qL, .inl (cL, 1, .inr (.inl lf)))] sz) [(o, .inr (3, [.ref q1, .ref q2, .ref q3, .ref q4])), (q1, .inl (cI, 12, .inl hf)), (q2, .inl (cZ, 12, .inl bf)), (qL, .inl (cL, 1, .inr (.inl lf)))] t) (va_A [(o, .inr (3, [.ref q1, .ref q2, .ref q3, .ref q4])), (q1, .inl (cI, 12, .inl hf)), (q2, .inl (cZ, 12, .inl bf)), (qL, .inl (cL, 1, .inr (.inl lf)))] sz)) 1 6 (va_A [(o, .inr (3, [.ref q1, .ref q2, .ref q3, .ref q4])), (q1, .inl (cI, 12, .inl hf)), (q2, .inl (cZ, 12, .inl bf)), (qL, .inl (cL, 1, .inr (.inl lf)))] sz) := by
  refine va_MetW (cc := cL_put) (maxL := 5) (ret := (some .int)) (by decide) rfl ?_
  intro p e s m args below meth c s₁ B hml hv
  obtain ⟨rfl, hsz, hP, hK, hD0, hE⟩ := hv
  have hx := B.exec
  have hb := B.bytes
  have hr := B.returns
  have hts := atoms_spec (ws := wsL_put) B.pre
  have hown : s.vm.findClass RL = some m.cls := findClass_of_methodNamed B.named
  have hlocks := B.notSynchronized
  have htab := vx_table (x := yL_put) B (hts _ List.mem_cons_self)
  subst hsz
  have hD := hD0.self (sz := s.heap.size)
  generalize hAe : va_A [(o, .inr (3, [.ref q1, .ref q2, .ref q3, .ref q4])), (q1, .inl (cI, 12, .inl hf)), (q2, .inl (cZ, 12, .inl bf)), (qL, .inl (cL, 1, .inr (.inl lf)))] s.heap.size = A at hD hE ⊢
  have hA : ∀ q : Nat, s.heap.size ≤ q → A q := fun q h => by rw [← hAe]; exact Or.inr h
  have hS : va_S A s.heap s.heap [] := va_S.rf
  have hl := lv_entry ([.ref o, .int i0, .int i1, .ref qL]) (n := 5) (Nat.le_of_ble_eq_true rfl)
  rw [lg_entry_eq]
  generalize (lg_sl ([.ref o, .int i0, .int i1, .ref qL]) ++ List.replicate (5 - (lg_sl ([.ref o, .int i0, .int i1, .ref qL])).length) Slot.unset).toArray = ls at hl ⊢
  have hl : lv_has ls 5 [(0, .ref o), (1, .int i0), (2, .int i1), (3, .ref qL)] := hl
  refine lv_aload_n hx hb dL_put_0 rfl (lv_at hl 3 rfl) ?_
  refine lv_iconst (v := 0) hx hb dL_put_1 (by decide) ?_
  refine lv_aload_n hx hb dL_put_2 rfl (lv_at hl 0 rfl) ?_
  refine lv_iload_n hx hb dL_put_3 rfl (lv_at hl 1 rfl) ?_
  refine lv_iload_n hx hb dL_put_4 rfl (lv_at hl 2 rfl) ?_
  refine ny_x hS (va_free (wc := [(o, .inr (3, [.ref q1, .ref q2, .ref q3, .ref q4])), (q1, .inl (cI, 12, .inl hf)), (q2, .inl (cZ, 12, .inl bf))]) hD hS hA [0, 1, 2] rfl) (vx_runV (As := [.int i0, .int i1]) (rest := [.int 0, .ref qL]) ⟨hx, hb, hml, hown, hts⟩ (c_X1_put_noA l D cI cZ o q1 q2 q3 q4 s.heap.size hf bf i0 i1 (by assumption) (by assumption) (by assumption)) (cwV 2 hts gL_put_X1_put rfl rfl rfl (by decide +kernel) ⟨Nat.le_of_ble_eq_true rfl, Nat.le_of_ble_eq_true rfl⟩) ⟨ny_blind, va_recv hK hP (ci := 3) (q0 := 0) rfl rfl, fun U hU hW => ⟨rfl, ny_preU hE hP hK hD hS hA [0, 1, 2] rfl (by decide) rfl [0, 1] rfl U hU hW⟩⟩ rfl rfl hl.1 rfl (lv_room (Nat.le_of_ble_eq_true rfl)) dL_put_5 ⟨Nat.le_of_ble_eq_true rfl, Nat.le_of_ble_eq_true rfl⟩) (fun ce q9 H locs hz9 hk9 hS hc9 hv9 hn9 => ?_)
  have hP : va_P D vwCl [(o, .inr (3, [.ref q1, .ref q2, .ref q3, .ref q4])), (q1, .inl (cI, 12, .inl hf)), (q2, .inl (cZ, 12, .inl bf)), (qL, .inl (cL, 1, .inr (.inl lf)))] H := ny_keep hP hk9
  refine vx_catch (own := RL) (name := ny_IA) (E := ny_IA) hown (tableOf [(0, 9, 12, 13)]) ⟨0, 9, 16, 15⟩ (tableOf []) (htab.trans rfl) (List.forall_mem_cons.mpr ⟨Or.inr ⟨(by decide), ny_IO, (hts (.classLink RL 13 "java/lang/IndexOutOfBoundsException") (List.mem_of_getElem? (i := 1) rfl)), (hE.2.2.2.2.2.1 _ (List.mem_of_getElem? (i := 2) rfl))⟩, (fun z hz => absurd hz List.not_mem_nil)⟩) (by decide) (by decide) (hts (.classLink RL 15 "java/lang/IllegalArgumentException") (List.mem_of_getElem? (i := 2) rfl)) (va_Nw.use rfl (hE.2.2.2.2.1 _ (List.mem_of_getElem? (i := 1) rfl))) hc9 hv9 hn9 ?_
  refine W.eq (g2 := F0 m 16 ls [.ref q9]) rfl ?_
  refine lv_astore (lv' := [(4, .ref q9), (0, .ref o), (1, .int i0), (2, .int i1), (3, .ref qL)]) hx hb dL_put_16 hl (by decide) rfl (fun ls hl => ?_)
  refine lv_iconst (v := 2) hx hb dL_put_18 (by decide) ?_
  have hP9 := hP.sub (ws' := [(o, .inr (3, [.ref q1, .ref q2, .ref q3, .ref q4])), (q1, .inl (cI, 12, .inl hf)), (q2, .inl (cZ, 12, .inl bf)), (qL, .inl (cL, 1, .inr (.inl lf)))]) [0, 1, 2, 3] rfl
  have hD9 := hD.sub (ws' := [(o, .inr (3, [.ref q1, .ref q2, .ref q3, .ref q4])), (q1, .inl (cI, 12, .inl hf)), (q2, .inl (cZ, 12, .inl bf)), (qL, .inl (cL, 1, .inr (.inl lf)))]) [0, 1, 2, 3] (by decide) rfl
  refine W.widen (k := 1) (n := 6) (Nat.le_of_ble_eq_true rfl) (Nat.le_of_ble_eq_true rfl) ?_
  exact W.iret (v := 2) hx hb hr (fun t ht hW => ⟨⟨2, (), rfl, (rfl), by rw [ht]; exact hP9, va_K.moved hW.alike hK, hD9⟩, hS.F ht⟩) hS.2.2 dL_put_19
set_option maxHeartbeats 4000000 in
set_option maxRecDepth 100000 in
theorem c_L_putBelow (l : Launch) (D : va_G) (cI : ClassId) (cZ : ClassId) (o : Nat) (q1 : Nat) (q2 : Nat) (q3 : Nat) (q4 : Nat) (sz : Nat) (hf : Nat → Int32) (bf : Nat → Int32) (i0 : Int32) (cL : ClassId) (qL : Nat) (lf : Nat → Int64) (gp0 : vp_in i0 12) (gH : ny_H hf) : Met l yL_putBelow wsL_putBelow ({ frames := 5, cells := 0, slots := 0, locals := 118 }) (va_Pc [.ref o, .int i0, .ref qL] (ny_pre D [(cI, .int), (cZ, .boolean), (cL, .long)] [(o, .inr (3, [.ref q1, .ref q2, .ref q3, .ref q4])), (q1, .inl (cI, 12, .inl hf)), (q2, .inl (cZ, 12, .inl bf)), (qL, .inl (cL, 1, .inr (.inl lf)))] sz)) (va_Qi (fun (r : Int32) (u : Unit) => r = 0) (fun (u : Unit) t => ny_at D [(cI, .int), (cZ, .boolean), (cL, .long)] (va_A [(o, .inr (3, [.ref q1, .ref q2, .ref q3, .ref q4])), (q1, .inl (cI, 12, .inl hf)), (q2, .inl (cZ, 12, .inl bf)), (qL, .inl (cL, 1, .inr (.inl lf)))] sz) [(o, .inr (3, [.ref q1, .ref q2, .ref q3, .ref q4])), (q1, .inl (cI, 12, .inl (upd hf i0.toNatClampNeg 0))), (q2, .inl (cZ, 12, .inl (upd bf i0.toNatClampNeg 1))), (qL, .inl (cL, 1, .inr (.inl (vp_updL lf (0 : Int32).toNatClampNeg (f_bt (hf i0.toNatClampNeg) (bf i0.toNatClampNeg))))))] t) (va_A [(o, .inr (3, [.ref q1, .ref q2, .ref q3, .ref q4])), (q1, .inl (cI, 12, .inl hf)), (q2, .inl (cZ, 12, .inl bf)), (qL, .inl (cL, 1, .inr (.inl lf)))] sz)) 0 0 (va_A [(o, .inr (3, [.ref q1, .ref q2, .ref q3, .ref q4])), (q1, .inl (cI, 12, .inl hf)), (q2, .inl (cZ, 12, .inl bf)), (qL, .inl (cL, 1, .inr (.inl lf)))] sz) := by
  refine va_MetW (cc := cL_putBelow) (maxL := 4) (ret := (some .int)) (by decide) rfl ?_
  intro p e s m args below meth c s₁ B hml hv
  obtain ⟨rfl, hsz, hP, hK, hD0, hE⟩ := hv
  have hx := B.exec
  have hb := B.bytes
  have hr := B.returns
  have hts := atoms_spec (ws := wsL_putBelow) B.pre
  have hown : s.vm.findClass RL = some m.cls := findClass_of_methodNamed B.named
  have hlocks := B.notSynchronized
  have htab := vx_table (x := yL_putBelow) B (hts _ List.mem_cons_self)
  subst hsz
  have hD := hD0.self (sz := s.heap.size)
  generalize hAe : va_A [(o, .inr (3, [.ref q1, .ref q2, .ref q3, .ref q4])), (q1, .inl (cI, 12, .inl hf)), (q2, .inl (cZ, 12, .inl bf)), (qL, .inl (cL, 1, .inr (.inl lf)))] s.heap.size = A at hD hE ⊢
  have hA : ∀ q : Nat, s.heap.size ≤ q → A q := fun q h => by rw [← hAe]; exact Or.inr h
  have hS : va_S A s.heap s.heap [] := va_S.rf
  have hl := lv_entry ([.ref o, .int i0, .ref qL]) (n := 4) (Nat.le_of_ble_eq_true rfl)
  rw [lg_entry_eq]
  generalize (lg_sl ([.ref o, .int i0, .ref qL]) ++ List.replicate (4 - (lg_sl ([.ref o, .int i0, .ref qL])).length) Slot.unset).toArray = ls at hl ⊢
  have hl : lv_has ls 4 [(0, .ref o), (1, .int i0), (2, .ref qL)] := hl
  refine lv_aload_n hx hb dL_putBelow_0 rfl (lv_at hl 2 rfl) ?_
  refine lv_iconst (v := 0) hx hb dL_putBelow_1 (by decide) ?_
  refine lv_aload_n hx hb dL_putBelow_2 rfl (lv_at hl 0 rfl) ?_
  refine lv_iload_n hx hb dL_putBelow_3 rfl (lv_at hl 1 rfl) ?_
  refine ny_l (wc := [(o, .inr (3, [.ref q1, .ref q2, .ref q3, .ref q4])), (q1, .inl (cI, 12, .inl hf)), (q2, .inl (cZ, 12, .inl bf))]) (wr := [(qL, .inl (cL, 1, .inr (.inl lf)))]) hP hD hS hA [0, 1, 2] [3] rfl rfl (by decide) (by decide) (va_runV (As := [.int i0]) (rest := [.int 0, .ref qL]) ⟨hx, hb, hml, hown, hts⟩ (c_X1_putBelow l D cI cZ o q1 q2 q3 q4 s.heap.size hf bf i0 (by assumption) (by assumption)) (cwV 1 hts gL_putBelow_X1_putBelow rfl rfl rfl (by decide +kernel) ⟨Nat.le_of_ble_eq_true rfl, Nat.le_of_ble_eq_true rfl⟩) ⟨ny_blind, va_recv hK hP (ci := 3) (q0 := 0) rfl rfl, fun U hU hW => ⟨rfl, ny_preU hE hP hK hD hS hA [0, 1, 2] rfl (by decide) rfl [0, 1] rfl U hU hW⟩⟩ rfl rfl hl.1 rfl (lv_room (Nat.le_of_ble_eq_true rfl)) dL_putBelow_4 ⟨Nat.le_of_ble_eq_true rfl, Nat.le_of_ble_eq_true rfl⟩) (fun r_4 u H locs hw_4 hP hD hS => ?_)
  have hP : va_P D vwCl [(qL, .inl (cL, 1, .inr (.inl lf))), (o, .inr (3, [.ref q1, .ref q2, .ref q3, .ref q4])), (q1, .inl (cI, 12, .inl (upd hf i0.toNatClampNeg 0))), (q2, .inl (cZ, 12, .inl (upd bf i0.toNatClampNeg 1)))] H := hP
  have hD : va_D A [(qL, .inl (cL, 1, .inr (.inl lf))), (o, .inr (3, [.ref q1, .ref q2, .ref q3, .ref q4])), (q1, .inl (cI, 12, .inl (upd hf i0.toNatClampNeg 0))), (q2, .inl (cZ, 12, .inl (upd bf i0.toNatClampNeg 1)))] := hD
  have hw_4 : r_4 = f_bt (hf i0.toNatClampNeg) (bf i0.toNatClampNeg) := hw_4
  subst hw_4
  refine va_last hx hb hK hP hD hS 0 2 rfl rfl (vp_in_iff.mpr (by decide)) dL_putBelow_7 (fun H locs hP hD hS => ?_)
  have hP : va_P D vwCl [(qL, .inl (cL, 1, .inr (.inl (vp_updL lf (0 : Int32).toNatClampNeg (f_bt (hf i0.toNatClampNeg) (bf i0.toNatClampNeg)))))), (o, .inr (3, [.ref q1, .ref q2, .ref q3, .ref q4])), (q1, .inl (cI, 12, .inl (upd hf i0.toNatClampNeg 0))), (q2, .inl (cZ, 12, .inl (upd bf i0.toNatClampNeg 1)))] H := hP
  have hD : va_D A [(qL, .inl (cL, 1, .inr (.inl (vp_updL lf (0 : Int32).toNatClampNeg (f_bt (hf i0.toNatClampNeg) (bf i0.toNatClampNeg)))))), (o, .inr (3, [.ref q1, .ref q2, .ref q3, .ref q4])), (q1, .inl (cI, 12, .inl (upd hf i0.toNatClampNeg 0))), (q2, .inl (cZ, 12, .inl (upd bf i0.toNatClampNeg 1)))] := hD
  refine lv_goto (tgt := 14) hx hb dL_putBelow_8 (by decide) ?_
  refine lv_iconst (v := 0) hx hb dL_putBelow_14 (by decide) ?_
  have hP9 := hP.sub (ws' := [(o, .inr (3, [.ref q1, .ref q2, .ref q3, .ref q4])), (q1, .inl (cI, 12, .inl (upd hf i0.toNatClampNeg 0))), (q2, .inl (cZ, 12, .inl (upd bf i0.toNatClampNeg 1))), (qL, .inl (cL, 1, .inr (.inl (vp_updL lf (0 : Int32).toNatClampNeg (f_bt (hf i0.toNatClampNeg) (bf i0.toNatClampNeg))))))]) [1, 2, 3, 0] rfl
  have hD9 := hD.sub (ws' := [(o, .inr (3, [.ref q1, .ref q2, .ref q3, .ref q4])), (q1, .inl (cI, 12, .inl (upd hf i0.toNatClampNeg 0))), (q2, .inl (cZ, 12, .inl (upd bf i0.toNatClampNeg 1))), (qL, .inl (cL, 1, .inr (.inl (vp_updL lf (0 : Int32).toNatClampNeg (f_bt (hf i0.toNatClampNeg) (bf i0.toNatClampNeg))))))]) [1, 2, 3, 0] (by decide) rfl
  exact W.iret (v := 0) hx hb hr (fun t ht hW => ⟨⟨0, (), rfl, (rfl), by rw [ht]; exact hP9, va_K.moved hW.alike hK, hD9⟩, hS.F ht⟩) hS.2.2 dL_putBelow_15
set_option maxHeartbeats 4000000 in
set_option maxRecDepth 100000 in
theorem c_L_putBelow_noP (l : Launch) (D : va_G) (cI : ClassId) (cZ : ClassId) (o : Nat) (q1 : Nat) (q2 : Nat) (q3 : Nat) (q4 : Nat) (sz : Nat) (hf : Nat → Int32) (bf : Nat → Int32) (i0 : Int32) (cL : ClassId) (qL : Nat) (lf : Nat → Int64) (gl : l.stackTraces = false) (gb : ¬ vp_in i0 12) : Met l yL_putBelow wsL_putBelow ({ frames := 8, cells := 1, slots := 6, locals := 133 }) (va_Pc [.ref o, .int i0, .ref qL] (ny_pre D [(cI, .int), (cZ, .boolean), (cL, .long)] [(o, .inr (3, [.ref q1, .ref q2, .ref q3, .ref q4])), (q1, .inl (cI, 12, .inl hf)), (q2, .inl (cZ, 12, .inl bf)), (qL, .inl (cL, 1, .inr (.inl lf)))] sz)) (va_Qi (fun (r : Int32) (u : Unit) => r = 1) (fun (u : Unit) t => ny_at D [(cI, .int), (cZ, .boolean), (cL, .long)] (va_A [(o, .inr (3, [.ref q1, .ref q2, .ref q3, .ref q4])), (q1, .inl (cI, 12, .inl hf)), (q2, .inl (cZ, 12, .inl bf)), (qL, .inl (cL, 1, .inr (.inl lf)))] sz) [(o, .inr (3, [.ref q1, .ref q2, .ref q3, .ref q4])), (q1, .inl (cI, 12, .inl hf)), (q2, .inl (cZ, 12, .inl bf)), (qL, .inl (cL, 1, .inr (.inl lf)))] t) (va_A [(o, .inr (3, [.ref q1, .ref q2, .ref q3, .ref q4])), (q1, .inl (cI, 12, .inl hf)), (q2, .inl (cZ, 12, .inl bf)), (qL, .inl (cL, 1, .inr (.inl lf)))] sz)) 1 6 (va_A [(o, .inr (3, [.ref q1, .ref q2, .ref q3, .ref q4])), (q1, .inl (cI, 12, .inl hf)), (q2, .inl (cZ, 12, .inl bf)), (qL, .inl (cL, 1, .inr (.inl lf)))] sz) := by
  refine va_MetW (cc := cL_putBelow) (maxL := 4) (ret := (some .int)) (by decide) rfl ?_
  intro p e s m args below meth c s₁ B hml hv
  obtain ⟨rfl, hsz, hP, hK, hD0, hE⟩ := hv
  have hx := B.exec
  have hb := B.bytes
  have hr := B.returns
  have hts := atoms_spec (ws := wsL_putBelow) B.pre
  have hown : s.vm.findClass RL = some m.cls := findClass_of_methodNamed B.named
  have hlocks := B.notSynchronized
  have htab := vx_table (x := yL_putBelow) B (hts _ List.mem_cons_self)
  subst hsz
  have hD := hD0.self (sz := s.heap.size)
  generalize hAe : va_A [(o, .inr (3, [.ref q1, .ref q2, .ref q3, .ref q4])), (q1, .inl (cI, 12, .inl hf)), (q2, .inl (cZ, 12, .inl bf)), (qL, .inl (cL, 1, .inr (.inl lf)))] s.heap.size = A at hD hE ⊢
  have hA : ∀ q : Nat, s.heap.size ≤ q → A q := fun q h => by rw [← hAe]; exact Or.inr h
  have hS : va_S A s.heap s.heap [] := va_S.rf
  have hl := lv_entry ([.ref o, .int i0, .ref qL]) (n := 4) (Nat.le_of_ble_eq_true rfl)
  rw [lg_entry_eq]
  generalize (lg_sl ([.ref o, .int i0, .ref qL]) ++ List.replicate (4 - (lg_sl ([.ref o, .int i0, .ref qL])).length) Slot.unset).toArray = ls at hl ⊢
  have hl : lv_has ls 4 [(0, .ref o), (1, .int i0), (2, .ref qL)] := hl
  refine lv_aload_n hx hb dL_putBelow_0 rfl (lv_at hl 2 rfl) ?_
  refine lv_iconst (v := 0) hx hb dL_putBelow_1 (by decide) ?_
  refine lv_aload_n hx hb dL_putBelow_2 rfl (lv_at hl 0 rfl) ?_
  refine lv_iload_n hx hb dL_putBelow_3 rfl (lv_at hl 1 rfl) ?_
  refine ny_x hS (va_free (wc := [(o, .inr (3, [.ref q1, .ref q2, .ref q3, .ref q4])), (q1, .inl (cI, 12, .inl hf)), (q2, .inl (cZ, 12, .inl bf))]) hD hS hA [0, 1, 2] rfl) (vx_runV (As := [.int i0]) (rest := [.int 0, .ref qL]) ⟨hx, hb, hml, hown, hts⟩ (c_X1_putBelow_noP l D cI cZ o q1 q2 q3 q4 s.heap.size hf bf i0 (by assumption) (by assumption)) (cwV 1 hts gL_putBelow_X1_putBelow rfl rfl rfl (by decide +kernel) ⟨Nat.le_of_ble_eq_true rfl, Nat.le_of_ble_eq_true rfl⟩) ⟨ny_blind, va_recv hK hP (ci := 3) (q0 := 0) rfl rfl, fun U hU hW => ⟨rfl, ny_preU hE hP hK hD hS hA [0, 1, 2] rfl (by decide) rfl [0, 1] rfl U hU hW⟩⟩ rfl rfl hl.1 rfl (lv_room (Nat.le_of_ble_eq_true rfl)) dL_putBelow_4 ⟨Nat.le_of_ble_eq_true rfl, Nat.le_of_ble_eq_true rfl⟩) (fun ce q9 H locs hz9 hk9 hS hc9 hv9 hn9 => ?_)
  have hP : va_P D vwCl [(o, .inr (3, [.ref q1, .ref q2, .ref q3, .ref q4])), (q1, .inl (cI, 12, .inl hf)), (q2, .inl (cZ, 12, .inl bf)), (qL, .inl (cL, 1, .inr (.inl lf)))] H := ny_keep hP hk9
  refine vx_catch (own := RL) (name := ny_IO) (E := ny_IO) hown (tableOf []) ⟨0, 8, 11, 13⟩ (tableOf []) (htab.trans rfl) (fun z hz => absurd hz List.not_mem_nil) (by decide) (by decide) (hts (.classLink RL 13 "java/lang/IndexOutOfBoundsException") (List.mem_of_getElem? (i := 1) rfl)) (va_Nw.use rfl (hE.2.2.2.2.1 _ (List.mem_of_getElem? (i := 0) rfl))) hc9 hv9 hn9 ?_
  refine W.eq (g2 := F0 m 11 ls [.ref q9]) rfl ?_
  refine lv_astore_n (lv' := [(3, .ref q9), (0, .ref o), (1, .int i0), (2, .ref qL)]) hx hb dL_putBelow_11 rfl hl (by decide) rfl (fun ls hl => ?_)
  refine lv_iconst (v := 1) hx hb dL_putBelow_12 (by decide) ?_
  have hP9 := hP.sub (ws' := [(o, .inr (3, [.ref q1, .ref q2, .ref q3, .ref q4])), (q1, .inl (cI, 12, .inl hf)), (q2, .inl (cZ, 12, .inl bf)), (qL, .inl (cL, 1, .inr (.inl lf)))]) [0, 1, 2, 3] rfl
  have hD9 := hD.sub (ws' := [(o, .inr (3, [.ref q1, .ref q2, .ref q3, .ref q4])), (q1, .inl (cI, 12, .inl hf)), (q2, .inl (cZ, 12, .inl bf)), (qL, .inl (cL, 1, .inr (.inl lf)))]) [0, 1, 2, 3] (by decide) rfl
  refine W.widen (k := 1) (n := 6) (Nat.le_of_ble_eq_true rfl) (Nat.le_of_ble_eq_true rfl) ?_
  exact W.iret (v := 1) hx hb hr (fun t ht hW => ⟨⟨1, (), rfl, (rfl), by rw [ht]; exact hP9, va_K.moved hW.alike hK, hD9⟩, hS.F ht⟩) hS.2.2 dL_putBelow_13
set_option maxHeartbeats 4000000 in
set_option maxRecDepth 100000 in
theorem c_L_turn (l : Launch) (D : va_G) (cI : ClassId) (cZ : ClassId) (o : Nat) (q1 : Nat) (q2 : Nat) (q3 : Nat) (q4 : Nat) (sz : Nat) (hf : Nat → Int32) (bf : Nat → Int32) (i0 : Int32) (cL : ClassId) (qL : Nat) (lf : Nat → Int64) (gp0 : vp_in i0 12) (gH : ny_H hf) (gB : ny_BB bf) : Met l yL_turn wsL_turn ({ frames := 5, cells := 0, slots := 0, locals := 116 }) (va_Pc [.ref o, .int i0, .ref qL] (ny_pre D [(cI, .int), (cZ, .boolean), (cL, .long)] [(o, .inr (3, [.ref q1, .ref q2, .ref q3, .ref q4])), (q1, .inl (cI, 12, .inl hf)), (q2, .inl (cZ, 12, .inl bf)), (qL, .inl (cL, 1, .inr (.inl lf)))] sz)) (va_Qi (fun (r : Int32) (u : Unit) => r = 0) (fun (u : Unit) t => ny_at D [(cI, .int), (cZ, .boolean), (cL, .long)] (va_A [(o, .inr (3, [.ref q1, .ref q2, .ref q3, .ref q4])), (q1, .inl (cI, 12, .inl hf)), (q2, .inl (cZ, 12, .inl bf)), (qL, .inl (cL, 1, .inr (.inl lf)))] sz) [(o, .inr (3, [.ref q1, .ref q2, .ref q3, .ref q4])), (q1, .inl (cI, 12, .inl (upd hf i0.toNatClampNeg (-hf i0.toNatClampNeg)))), (q2, .inl (cZ, 12, .inl (upd bf i0.toNatClampNeg (f_z (-hf i0.toNatClampNeg) (1 - bf i0.toNatClampNeg))))), (qL, .inl (cL, 1, .inr (.inl (vp_updL lf (0 : Int32).toNatClampNeg (f_bt (-hf i0.toNatClampNeg) (1 - bf i0.toNatClampNeg))))))] t) (va_A [(o, .inr (3, [.ref q1, .ref q2, .ref q3, .ref q4])), (q1, .inl (cI, 12, .inl hf)), (q2, .inl (cZ, 12, .inl bf)), (qL, .inl (cL, 1, .inr (.inl lf)))] sz)) 0 0 (va_A [(o, .inr (3, [.ref q1, .ref q2, .ref q3, .ref q4])), (q1, .inl (cI, 12, .inl hf)), (q2, .inl (cZ, 12, .inl bf)), (qL, .inl (cL, 1, .inr (.inl lf)))] sz) := by
  refine va_MetW (cc := cL_turn) (maxL := 4) (ret := (some .int)) (by decide) rfl ?_
  intro p e s m args below meth c s₁ B hml hv
  obtain ⟨rfl, hsz, hP, hK, hD0, hE⟩ := hv
  have hx := B.exec
  have hb := B.bytes
  have hr := B.returns
  have hts := atoms_spec (ws := wsL_turn) B.pre
  have hown : s.vm.findClass RL = some m.cls := findClass_of_methodNamed B.named
  have hlocks := B.notSynchronized
  have htab := vx_table (x := yL_turn) B (hts _ List.mem_cons_self)
  subst hsz
  have hD := hD0.self (sz := s.heap.size)
  generalize hAe : va_A [(o, .inr (3, [.ref q1, .ref q2, .ref q3, .ref q4])), (q1, .inl (cI, 12, .inl hf)), (q2, .inl (cZ, 12, .inl bf)), (qL, .inl (cL, 1, .inr (.inl lf)))] s.heap.size = A at hD hE ⊢
  have hA : ∀ q : Nat, s.heap.size ≤ q → A q := fun q h => by rw [← hAe]; exact Or.inr h
  have hS : va_S A s.heap s.heap [] := va_S.rf
  have hl := lv_entry ([.ref o, .int i0, .ref qL]) (n := 4) (Nat.le_of_ble_eq_true rfl)
  rw [lg_entry_eq]
  generalize (lg_sl ([.ref o, .int i0, .ref qL]) ++ List.replicate (4 - (lg_sl ([.ref o, .int i0, .ref qL])).length) Slot.unset).toArray = ls at hl ⊢
  have hl : lv_has ls 4 [(0, .ref o), (1, .int i0), (2, .ref qL)] := hl
  refine lv_aload_n hx hb dL_turn_0 rfl (lv_at hl 2 rfl) ?_
  refine lv_iconst (v := 0) hx hb dL_turn_1 (by decide) ?_
  refine lv_aload_n hx hb dL_turn_2 rfl (lv_at hl 0 rfl) ?_
  refine lv_iload_n hx hb dL_turn_3 rfl (lv_at hl 1 rfl) ?_
  refine ny_l (wc := [(o, .inr (3, [.ref q1, .ref q2, .ref q3, .ref q4])), (q1, .inl (cI, 12, .inl hf)), (q2, .inl (cZ, 12, .inl bf))]) (wr := [(qL, .inl (cL, 1, .inr (.inl lf)))]) hP hD hS hA [0, 1, 2] [3] rfl rfl (by decide) (by decide) (va_runV (As := [.int i0]) (rest := [.int 0, .ref qL]) ⟨hx, hb, hml, hown, hts⟩ (c_X1_turn l D cI cZ o q1 q2 q3 q4 s.heap.size hf bf i0 (by assumption) (by assumption) (by assumption)) (cwV 1 hts gL_turn_X1_turn rfl rfl rfl (by decide +kernel) ⟨Nat.le_of_ble_eq_true rfl, Nat.le_of_ble_eq_true rfl⟩) ⟨ny_blind, va_recv hK hP (ci := 3) (q0 := 0) rfl rfl, fun U hU hW => ⟨rfl, ny_preU hE hP hK hD hS hA [0, 1, 2] rfl (by decide) rfl [0, 1] rfl U hU hW⟩⟩ rfl rfl hl.1 rfl (lv_room (Nat.le_of_ble_eq_true rfl)) dL_turn_4 ⟨Nat.le_of_ble_eq_true rfl, Nat.le_of_ble_eq_true rfl⟩) (fun r_4 u H locs hw_4 hP hD hS => ?_)
  have hP : va_P D vwCl [(qL, .inl (cL, 1, .inr (.inl lf))), (o, .inr (3, [.ref q1, .ref q2, .ref q3, .ref q4])), (q1, .inl (cI, 12, .inl (upd hf i0.toNatClampNeg (-hf i0.toNatClampNeg)))), (q2, .inl (cZ, 12, .inl (upd bf i0.toNatClampNeg (f_z (-hf i0.toNatClampNeg) (1 - bf i0.toNatClampNeg)))))] H := hP
  have hD : va_D A [(qL, .inl (cL, 1, .inr (.inl lf))), (o, .inr (3, [.ref q1, .ref q2, .ref q3, .ref q4])), (q1, .inl (cI, 12, .inl (upd hf i0.toNatClampNeg (-hf i0.toNatClampNeg)))), (q2, .inl (cZ, 12, .inl (upd bf i0.toNatClampNeg (f_z (-hf i0.toNatClampNeg) (1 - bf i0.toNatClampNeg)))))] := hD
  have hw_4 : r_4 = f_bt (-hf i0.toNatClampNeg) (1 - bf i0.toNatClampNeg) := hw_4
  subst hw_4
  refine va_last hx hb hK hP hD hS 0 2 rfl rfl (vp_in_iff.mpr (by decide)) dL_turn_7 (fun H locs hP hD hS => ?_)
  have hP : va_P D vwCl [(qL, .inl (cL, 1, .inr (.inl (vp_updL lf (0 : Int32).toNatClampNeg (f_bt (-hf i0.toNatClampNeg) (1 - bf i0.toNatClampNeg)))))), (o, .inr (3, [.ref q1, .ref q2, .ref q3, .ref q4])), (q1, .inl (cI, 12, .inl (upd hf i0.toNatClampNeg (-hf i0.toNatClampNeg)))), (q2, .inl (cZ, 12, .inl (upd bf i0.toNatClampNeg (f_z (-hf i0.toNatClampNeg) (1 - bf i0.toNatClampNeg)))))] H := hP
  have hD : va_D A [(qL, .inl (cL, 1, .inr (.inl (vp_updL lf (0 : Int32).toNatClampNeg (f_bt (-hf i0.toNatClampNeg) (1 - bf i0.toNatClampNeg)))))), (o, .inr (3, [.ref q1, .ref q2, .ref q3, .ref q4])), (q1, .inl (cI, 12, .inl (upd hf i0.toNatClampNeg (-hf i0.toNatClampNeg)))), (q2, .inl (cZ, 12, .inl (upd bf i0.toNatClampNeg (f_z (-hf i0.toNatClampNeg) (1 - bf i0.toNatClampNeg)))))] := hD
  refine lv_goto (tgt := 14) hx hb dL_turn_8 (by decide) ?_
  refine lv_iconst (v := 0) hx hb dL_turn_14 (by decide) ?_
  have hP9 := hP.sub (ws' := [(o, .inr (3, [.ref q1, .ref q2, .ref q3, .ref q4])), (q1, .inl (cI, 12, .inl (upd hf i0.toNatClampNeg (-hf i0.toNatClampNeg)))), (q2, .inl (cZ, 12, .inl (upd bf i0.toNatClampNeg (f_z (-hf i0.toNatClampNeg) (1 - bf i0.toNatClampNeg))))), (qL, .inl (cL, 1, .inr (.inl (vp_updL lf (0 : Int32).toNatClampNeg (f_bt (-hf i0.toNatClampNeg) (1 - bf i0.toNatClampNeg))))))]) [1, 2, 3, 0] rfl
  have hD9 := hD.sub (ws' := [(o, .inr (3, [.ref q1, .ref q2, .ref q3, .ref q4])), (q1, .inl (cI, 12, .inl (upd hf i0.toNatClampNeg (-hf i0.toNatClampNeg)))), (q2, .inl (cZ, 12, .inl (upd bf i0.toNatClampNeg (f_z (-hf i0.toNatClampNeg) (1 - bf i0.toNatClampNeg))))), (qL, .inl (cL, 1, .inr (.inl (vp_updL lf (0 : Int32).toNatClampNeg (f_bt (-hf i0.toNatClampNeg) (1 - bf i0.toNatClampNeg))))))]) [1, 2, 3, 0] (by decide) rfl
  exact W.iret (v := 0) hx hb hr (fun t ht hW => ⟨⟨0, (), rfl, (rfl), by rw [ht]; exact hP9, va_K.moved hW.alike hK, hD9⟩, hS.F ht⟩) hS.2.2 dL_turn_15
set_option maxHeartbeats 4000000 in
set_option maxRecDepth 100000 in
theorem c_L_turn_noP (l : Launch) (D : va_G) (cI : ClassId) (cZ : ClassId) (o : Nat) (q1 : Nat) (q2 : Nat) (q3 : Nat) (q4 : Nat) (sz : Nat) (hf : Nat → Int32) (bf : Nat → Int32) (i0 : Int32) (cL : ClassId) (qL : Nat) (lf : Nat → Int64) (gl : l.stackTraces = false) (gb : ¬ vp_in i0 12) : Met l yL_turn wsL_turn ({ frames := 8, cells := 1, slots := 6, locals := 131 }) (va_Pc [.ref o, .int i0, .ref qL] (ny_pre D [(cI, .int), (cZ, .boolean), (cL, .long)] [(o, .inr (3, [.ref q1, .ref q2, .ref q3, .ref q4])), (q1, .inl (cI, 12, .inl hf)), (q2, .inl (cZ, 12, .inl bf)), (qL, .inl (cL, 1, .inr (.inl lf)))] sz)) (va_Qi (fun (r : Int32) (u : Unit) => r = 1) (fun (u : Unit) t => ny_at D [(cI, .int), (cZ, .boolean), (cL, .long)] (va_A [(o, .inr (3, [.ref q1, .ref q2, .ref q3, .ref q4])), (q1, .inl (cI, 12, .inl hf)), (q2, .inl (cZ, 12, .inl bf)), (qL, .inl (cL, 1, .inr (.inl lf)))] sz) [(o, .inr (3, [.ref q1, .ref q2, .ref q3, .ref q4])), (q1, .inl (cI, 12, .inl hf)), (q2, .inl (cZ, 12, .inl bf)), (qL, .inl (cL, 1, .inr (.inl lf)))] t) (va_A [(o, .inr (3, [.ref q1, .ref q2, .ref q3, .ref q4])), (q1, .inl (cI, 12, .inl hf)), (q2, .inl (cZ, 12, .inl bf)), (qL, .inl (cL, 1, .inr (.inl lf)))] sz)) 1 6 (va_A [(o, .inr (3, [.ref q1, .ref q2, .ref q3, .ref q4])), (q1, .inl (cI, 12, .inl hf)), (q2, .inl (cZ, 12, .inl bf)), (qL, .inl (cL, 1, .inr (.inl lf)))] sz) := by
  refine va_MetW (cc := cL_turn) (maxL := 4) (ret := (some .int)) (by decide) rfl ?_
  intro p e s m args below meth c s₁ B hml hv
  obtain ⟨rfl, hsz, hP, hK, hD0, hE⟩ := hv
  have hx := B.exec
  have hb := B.bytes
  have hr := B.returns
  have hts := atoms_spec (ws := wsL_turn) B.pre
  have hown : s.vm.findClass RL = some m.cls := findClass_of_methodNamed B.named
  have hlocks := B.notSynchronized
  have htab := vx_table (x := yL_turn) B (hts _ List.mem_cons_self)
  subst hsz
  have hD := hD0.self (sz := s.heap.size)
  generalize hAe : va_A [(o, .inr (3, [.ref q1, .ref q2, .ref q3, .ref q4])), (q1, .inl (cI, 12, .inl hf)), (q2, .inl (cZ, 12, .inl bf)), (qL, .inl (cL, 1, .inr (.inl lf)))] s.heap.size = A at hD hE ⊢
  have hA : ∀ q : Nat, s.heap.size ≤ q → A q := fun q h => by rw [← hAe]; exact Or.inr h
  have hS : va_S A s.heap s.heap [] := va_S.rf
  have hl := lv_entry ([.ref o, .int i0, .ref qL]) (n := 4) (Nat.le_of_ble_eq_true rfl)
  rw [lg_entry_eq]
  generalize (lg_sl ([.ref o, .int i0, .ref qL]) ++ List.replicate (4 - (lg_sl ([.ref o, .int i0, .ref qL])).length) Slot.unset).toArray = ls at hl ⊢
  have hl : lv_has ls 4 [(0, .ref o), (1, .int i0), (2, .ref qL)] := hl
  refine lv_aload_n hx hb dL_turn_0 rfl (lv_at hl 2 rfl) ?_
  refine lv_iconst (v := 0) hx hb dL_turn_1 (by decide) ?_
  refine lv_aload_n hx hb dL_turn_2 rfl (lv_at hl 0 rfl) ?_
  refine lv_iload_n hx hb dL_turn_3 rfl (lv_at hl 1 rfl) ?_
  refine ny_x hS (va_free (wc := [(o, .inr (3, [.ref q1, .ref q2, .ref q3, .ref q4])), (q1, .inl (cI, 12, .inl hf)), (q2, .inl (cZ, 12, .inl bf))]) hD hS hA [0, 1, 2] rfl) (vx_runV (As := [.int i0]) (rest := [.int 0, .ref qL]) ⟨hx, hb, hml, hown, hts⟩ (c_X1_turn_noP l D cI cZ o q1 q2 q3 q4 s.heap.size hf bf i0 (by assumption) (by assumption)) (cwV 1 hts gL_turn_X1_turn rfl rfl rfl (by decide +kernel) ⟨Nat.le_of_ble_eq_true rfl, Nat.le_of_ble_eq_true rfl⟩) ⟨ny_blind, va_recv hK hP (ci := 3) (q0 := 0) rfl rfl, fun U hU hW => ⟨rfl, ny_preU hE hP hK hD hS hA [0, 1, 2] rfl (by decide) rfl [0, 1] rfl U hU hW⟩⟩ rfl rfl hl.1 rfl (lv_room (Nat.le_of_ble_eq_true rfl)) dL_turn_4 ⟨Nat.le_of_ble_eq_true rfl, Nat.le_of_ble_eq_true rfl⟩) (fun ce q9 H locs hz9 hk9 hS hc9 hv9 hn9 => ?_)
  have hP : va_P D vwCl [(o, .inr (3, [.ref q1, .ref q2, .ref q3, .ref q4])), (q1, .inl (cI, 12, .inl hf)), (q2, .inl (cZ, 12, .inl bf)), (qL, .inl (cL, 1, .inr (.inl lf)))] H := ny_keep hP hk9
  refine vx_catch (own := RL) (name := ny_IO) (E := ny_IO) hown (tableOf []) ⟨0, 8, 11, 13⟩ (tableOf []) (htab.trans rfl) (fun z hz => absurd hz List.not_mem_nil) (by decide) (by decide) (hts (.classLink RL 13 "java/lang/IndexOutOfBoundsException") (List.mem_of_getElem? (i := 1) rfl)) (va_Nw.use rfl (hE.2.2.2.2.1 _ (List.mem_of_getElem? (i := 0) rfl))) hc9 hv9 hn9 ?_
  refine W.eq (g2 := F0 m 11 ls [.ref q9]) rfl ?_
  refine lv_astore_n (lv' := [(3, .ref q9), (0, .ref o), (1, .int i0), (2, .ref qL)]) hx hb dL_turn_11 rfl hl (by decide) rfl (fun ls hl => ?_)
  refine lv_iconst (v := 1) hx hb dL_turn_12 (by decide) ?_
  have hP9 := hP.sub (ws' := [(o, .inr (3, [.ref q1, .ref q2, .ref q3, .ref q4])), (q1, .inl (cI, 12, .inl hf)), (q2, .inl (cZ, 12, .inl bf)), (qL, .inl (cL, 1, .inr (.inl lf)))]) [0, 1, 2, 3] rfl
  have hD9 := hD.sub (ws' := [(o, .inr (3, [.ref q1, .ref q2, .ref q3, .ref q4])), (q1, .inl (cI, 12, .inl hf)), (q2, .inl (cZ, 12, .inl bf)), (qL, .inl (cL, 1, .inr (.inl lf)))]) [0, 1, 2, 3] (by decide) rfl
  refine W.widen (k := 1) (n := 6) (Nat.le_of_ble_eq_true rfl) (Nat.le_of_ble_eq_true rfl) ?_
  exact W.iret (v := 1) hx hb hr (fun t ht hW => ⟨⟨1, (), rfl, (rfl), by rw [ht]; exact hP9, va_K.moved hW.alike hK, hD9⟩, hS.F ht⟩) hS.2.2 dL_turn_13
set_option maxHeartbeats 4000000 in
set_option maxRecDepth 100000 in
theorem c_L_eighths (l : Launch) (D : va_G) (cI : ClassId) (cZ : ClassId) (o : Nat) (q1 : Nat) (q2 : Nat) (q3 : Nat) (q4 : Nat) (sz : Nat) (hf : Nat → Int32) (bf : Nat → Int32) (i0 : Int32) (cL : ClassId) (qL : Nat) (lf : Nat → Int64) (gp0 : vp_in i0 12) : Met l yL_eighths wsL_eighths ({ frames := 2, cells := 0, slots := 0, locals := 41 }) (va_Pc [.ref o, .int i0, .ref qL] (ny_pre D [(cI, .int), (cZ, .boolean), (cL, .long)] [(o, .inr (3, [.ref q1, .ref q2, .ref q3, .ref q4])), (q1, .inl (cI, 12, .inl hf)), (q2, .inl (cZ, 12, .inl bf)), (qL, .inl (cL, 1, .inr (.inl lf)))] sz)) (va_Qi (fun (r : Int32) (u : Unit) => r = 0) (fun (u : Unit) t => ny_at D [(cI, .int), (cZ, .boolean), (cL, .long)] (va_A [(o, .inr (3, [.ref q1, .ref q2, .ref q3, .ref q4])), (q1, .inl (cI, 12, .inl hf)), (q2, .inl (cZ, 12, .inl bf)), (qL, .inl (cL, 1, .inr (.inl lf)))] sz) [(o, .inr (3, [.ref q1, .ref q2, .ref q3, .ref q4])), (q1, .inl (cI, 12, .inl hf)), (q2, .inl (cZ, 12, .inl bf)), (qL, .inl (cL, 1, .inr (.inl (vp_updL lf (0 : Int32).toNatClampNeg ((hf i0.toNatClampNeg).toInt64)))))] t) (va_A [(o, .inr (3, [.ref q1, .ref q2, .ref q3, .ref q4])), (q1, .inl (cI, 12, .inl hf)), (q2, .inl (cZ, 12, .inl bf)), (qL, .inl (cL, 1, .inr (.inl lf)))] sz)) 0 0 (va_A [(o, .inr (3, [.ref q1, .ref q2, .ref q3, .ref q4])), (q1, .inl (cI, 12, .inl hf)), (q2, .inl (cZ, 12, .inl bf)), (qL, .inl (cL, 1, .inr (.inl lf)))] sz) := by
  refine va_MetW (cc := cL_eighths) (maxL := 4) (ret := (some .int)) (by decide) rfl ?_
  intro p e s m args below meth c s₁ B hml hv
  obtain ⟨rfl, hsz, hP, hK, hD0, hE⟩ := hv
  have hx := B.exec
  have hb := B.bytes
  have hr := B.returns
  have hts := atoms_spec (ws := wsL_eighths) B.pre
  have hown : s.vm.findClass RL = some m.cls := findClass_of_methodNamed B.named
  have hlocks := B.notSynchronized
  have htab := vx_table (x := yL_eighths) B (hts _ List.mem_cons_self)
  subst hsz
  have hD := hD0.self (sz := s.heap.size)
  generalize hAe : va_A [(o, .inr (3, [.ref q1, .ref q2, .ref q3, .ref q4])), (q1, .inl (cI, 12, .inl hf)), (q2, .inl (cZ, 12, .inl bf)), (qL, .inl (cL, 1, .inr (.inl lf)))] s.heap.size = A at hD hE ⊢
  have hA : ∀ q : Nat, s.heap.size ≤ q → A q := fun q h => by rw [← hAe]; exact Or.inr h
  have hS : va_S A s.heap s.heap [] := va_S.rf
  have hl := lv_entry ([.ref o, .int i0, .ref qL]) (n := 4) (Nat.le_of_ble_eq_true rfl)
  rw [lg_entry_eq]
  generalize (lg_sl ([.ref o, .int i0, .ref qL]) ++ List.replicate (4 - (lg_sl ([.ref o, .int i0, .ref qL])).length) Slot.unset).toArray = ls at hl ⊢
  have hl : lv_has ls 4 [(0, .ref o), (1, .int i0), (2, .ref qL)] := hl
  refine lv_aload_n hx hb dL_eighths_0 rfl (lv_at hl 2 rfl) ?_
  refine lv_iconst (v := 0) hx hb dL_eighths_1 (by decide) ?_
  refine lv_aload_n hx hb dL_eighths_2 rfl (lv_at hl 0 rfl) ?_
  refine lv_iload_n hx hb dL_eighths_3 rfl (lv_at hl 1 rfl) ?_
  refine vp_callSi (va_Run.run (va_runV (As := [.int i0]) (rest := [.int 0, .ref qL]) ⟨hx, hb, hml, hown, hts⟩ (c_X1_eighths l D cI cZ o q1 q2 q3 q4 s.heap.size hf bf i0 (by assumption)) (cwV 1 hts gL_eighths_X1_eighths rfl rfl rfl (by decide +kernel) ⟨Nat.le_of_ble_eq_true rfl, Nat.le_of_ble_eq_true rfl⟩) ⟨ny_blind, va_recv hK hP (ci := 3) (q0 := 0) rfl rfl, fun U hU hW => ⟨rfl, ny_preU hE hP hK hD hS hA [0, 1, 2] rfl (by decide) rfl [0, 1] rfl U hU hW⟩⟩ rfl rfl hl.1 rfl (lv_room (Nat.le_of_ble_eq_true rfl)) dL_eighths_4 ⟨Nat.le_of_ble_eq_true rfl, Nat.le_of_ble_eq_true rfl⟩)) (fun r_4 hw_4 => ?_)
  have hw_4 : r_4 = hf i0.toNatClampNeg := hw_4
  subst hw_4
  refine lv_i2l hx hb dL_eighths_7 rfl ?_
  refine va_last hx hb hK hP hD hS 3 2 rfl rfl (vp_in_iff.mpr (by decide)) dL_eighths_8 (fun H locs hP hD hS => ?_)
  have hP : va_P D vwCl [(o, .inr (3, [.ref q1, .ref q2, .ref q3, .ref q4])), (q1, .inl (cI, 12, .inl hf)), (q2, .inl (cZ, 12, .inl bf)), (qL, .inl (cL, 1, .inr (.inl (vp_updL lf (0 : Int32).toNatClampNeg ((hf i0.toNatClampNeg).toInt64)))))] H := hP
  have hD : va_D A [(o, .inr (3, [.ref q1, .ref q2, .ref q3, .ref q4])), (q1, .inl (cI, 12, .inl hf)), (q2, .inl (cZ, 12, .inl bf)), (qL, .inl (cL, 1, .inr (.inl (vp_updL lf (0 : Int32).toNatClampNeg ((hf i0.toNatClampNeg).toInt64)))))] := hD
  refine lv_goto (tgt := 15) hx hb dL_eighths_9 (by decide) ?_
  refine lv_iconst (v := 0) hx hb dL_eighths_15 (by decide) ?_
  have hP9 := hP.sub (ws' := [(o, .inr (3, [.ref q1, .ref q2, .ref q3, .ref q4])), (q1, .inl (cI, 12, .inl hf)), (q2, .inl (cZ, 12, .inl bf)), (qL, .inl (cL, 1, .inr (.inl (vp_updL lf (0 : Int32).toNatClampNeg ((hf i0.toNatClampNeg).toInt64)))))]) [0, 1, 2, 3] rfl
  have hD9 := hD.sub (ws' := [(o, .inr (3, [.ref q1, .ref q2, .ref q3, .ref q4])), (q1, .inl (cI, 12, .inl hf)), (q2, .inl (cZ, 12, .inl bf)), (qL, .inl (cL, 1, .inr (.inl (vp_updL lf (0 : Int32).toNatClampNeg ((hf i0.toNatClampNeg).toInt64)))))]) [0, 1, 2, 3] (by decide) rfl
  exact W.iret (v := 0) hx hb hr (fun t ht hW => ⟨⟨0, (), rfl, (rfl), by rw [ht]; exact hP9, va_K.moved hW.alike hK, hD9⟩, hS.F ht⟩) hS.2.2 dL_eighths_16
set_option maxHeartbeats 4000000 in
set_option maxRecDepth 100000 in
theorem c_L_eighths_noP (l : Launch) (D : va_G) (cI : ClassId) (cZ : ClassId) (o : Nat) (q1 : Nat) (q2 : Nat) (q3 : Nat) (q4 : Nat) (sz : Nat) (hf : Nat → Int32) (bf : Nat → Int32) (i0 : Int32) (cL : ClassId) (qL : Nat) (lf : Nat → Int64) (gl : l.stackTraces = false) (gb : ¬ vp_in i0 12) : Met l yL_eighths wsL_eighths ({ frames := 8, cells := 1, slots := 6, locals := 131 }) (va_Pc [.ref o, .int i0, .ref qL] (ny_pre D [(cI, .int), (cZ, .boolean), (cL, .long)] [(o, .inr (3, [.ref q1, .ref q2, .ref q3, .ref q4])), (q1, .inl (cI, 12, .inl hf)), (q2, .inl (cZ, 12, .inl bf)), (qL, .inl (cL, 1, .inr (.inl lf)))] sz)) (va_Qi (fun (r : Int32) (u : Unit) => r = 1) (fun (u : Unit) t => ny_at D [(cI, .int), (cZ, .boolean), (cL, .long)] (va_A [(o, .inr (3, [.ref q1, .ref q2, .ref q3, .ref q4])), (q1, .inl (cI, 12, .inl hf)), (q2, .inl (cZ, 12, .inl bf)), (qL, .inl (cL, 1, .inr (.inl lf)))] sz) [(o, .inr (3, [.ref q1, .ref q2, .ref q3, .ref q4])), (q1, .inl (cI, 12, .inl hf)), (q2, .inl (cZ, 12, .inl bf)), (qL, .inl (cL, 1, .inr (.inl lf)))] t) (va_A [(o, .inr (3, [.ref q1, .ref q2, .ref q3, .ref q4])), (q1, .inl (cI, 12, .inl hf)), (q2, .inl (cZ, 12, .inl bf)), (qL, .inl (cL, 1, .inr (.inl lf)))] sz)) 1 6 (va_A [(o, .inr (3, [.ref q1, .ref q2, .ref q3, .ref q4])), (q1, .inl (cI, 12, .inl hf)), (q2, .inl (cZ, 12, .inl bf)), (qL, .inl (cL, 1, .inr (.inl lf)))] sz) := by
  refine va_MetW (cc := cL_eighths) (maxL := 4) (ret := (some .int)) (by decide) rfl ?_
  intro p e s m args below meth c s₁ B hml hv
  obtain ⟨rfl, hsz, hP, hK, hD0, hE⟩ := hv
  have hx := B.exec
  have hb := B.bytes
  have hr := B.returns
  have hts := atoms_spec (ws := wsL_eighths) B.pre
  have hown : s.vm.findClass RL = some m.cls := findClass_of_methodNamed B.named
  have hlocks := B.notSynchronized
  have htab := vx_table (x := yL_eighths) B (hts _ List.mem_cons_self)
  subst hsz
  have hD := hD0.self (sz := s.heap.size)
  generalize hAe : va_A [(o, .inr (3, [.ref q1, .ref q2, .ref q3, .ref q4])), (q1, .inl (cI, 12, .inl hf)), (q2, .inl (cZ, 12, .inl bf)), (qL, .inl (cL, 1, .inr (.inl lf)))] s.heap.size = A at hD hE ⊢
  have hA : ∀ q : Nat, s.heap.size ≤ q → A q := fun q h => by rw [← hAe]; exact Or.inr h
  have hS : va_S A s.heap s.heap [] := va_S.rf
  have hl := lv_entry ([.ref o, .int i0, .ref qL]) (n := 4) (Nat.le_of_ble_eq_true rfl)
  rw [lg_entry_eq]
  generalize (lg_sl ([.ref o, .int i0, .ref qL]) ++ List.replicate (4 - (lg_sl ([.ref o, .int i0, .ref qL])).length) Slot.unset).toArray = ls at hl ⊢
  have hl : lv_has ls 4 [(0, .ref o), (1, .int i0), (2, .ref qL)] := hl
  refine lv_aload_n hx hb dL_eighths_0 rfl (lv_at hl 2 rfl) ?_
  refine lv_iconst (v := 0) hx hb dL_eighths_1 (by decide) ?_
  refine lv_aload_n hx hb dL_eighths_2 rfl (lv_at hl 0 rfl) ?_
  refine lv_iload_n hx hb dL_eighths_3 rfl (lv_at hl 1 rfl) ?_
  refine ny_x hS (va_free (wc := [(o, .inr (3, [.ref q1, .ref q2, .ref q3, .ref q4])), (q1, .inl (cI, 12, .inl hf)), (q2, .inl (cZ, 12, .inl bf))]) hD hS hA [0, 1, 2] rfl) (vx_runV (As := [.int i0]) (rest := [.int 0, .ref qL]) ⟨hx, hb, hml, hown, hts⟩ (c_X1_eighths_noP l D cI cZ o q1 q2 q3 q4 s.heap.size hf bf i0 (by assumption) (by assumption)) (cwV 1 hts gL_eighths_X1_eighths rfl rfl rfl (by decide +kernel) ⟨Nat.le_of_ble_eq_true rfl, Nat.le_of_ble_eq_true rfl⟩) ⟨ny_blind, va_recv hK hP (ci := 3) (q0 := 0) rfl rfl, fun U hU hW => ⟨rfl, ny_preU hE hP hK hD hS hA [0, 1, 2] rfl (by decide) rfl [0, 1] rfl U hU hW⟩⟩ rfl rfl hl.1 rfl (lv_room (Nat.le_of_ble_eq_true rfl)) dL_eighths_4 ⟨Nat.le_of_ble_eq_true rfl, Nat.le_of_ble_eq_true rfl⟩) (fun ce q9 H locs hz9 hk9 hS hc9 hv9 hn9 => ?_)
  have hP : va_P D vwCl [(o, .inr (3, [.ref q1, .ref q2, .ref q3, .ref q4])), (q1, .inl (cI, 12, .inl hf)), (q2, .inl (cZ, 12, .inl bf)), (qL, .inl (cL, 1, .inr (.inl lf)))] H := ny_keep hP hk9
  refine vx_catch (own := RL) (name := ny_IO) (E := ny_IO) hown (tableOf []) ⟨0, 9, 12, 13⟩ (tableOf []) (htab.trans rfl) (fun z hz => absurd hz List.not_mem_nil) (by decide) (by decide) (hts (.classLink RL 13 "java/lang/IndexOutOfBoundsException") (List.mem_of_getElem? (i := 1) rfl)) (va_Nw.use rfl (hE.2.2.2.2.1 _ (List.mem_of_getElem? (i := 0) rfl))) hc9 hv9 hn9 ?_
  refine W.eq (g2 := F0 m 12 ls [.ref q9]) rfl ?_
  refine lv_astore_n (lv' := [(3, .ref q9), (0, .ref o), (1, .int i0), (2, .ref qL)]) hx hb dL_eighths_12 rfl hl (by decide) rfl (fun ls hl => ?_)
  refine lv_iconst (v := 1) hx hb dL_eighths_13 (by decide) ?_
  have hP9 := hP.sub (ws' := [(o, .inr (3, [.ref q1, .ref q2, .ref q3, .ref q4])), (q1, .inl (cI, 12, .inl hf)), (q2, .inl (cZ, 12, .inl bf)), (qL, .inl (cL, 1, .inr (.inl lf)))]) [0, 1, 2, 3] rfl
  have hD9 := hD.sub (ws' := [(o, .inr (3, [.ref q1, .ref q2, .ref q3, .ref q4])), (q1, .inl (cI, 12, .inl hf)), (q2, .inl (cZ, 12, .inl bf)), (qL, .inl (cL, 1, .inr (.inl lf)))]) [0, 1, 2, 3] (by decide) rfl
  refine W.widen (k := 1) (n := 6) (Nat.le_of_ble_eq_true rfl) (Nat.le_of_ble_eq_true rfl) ?_
  exact W.iret (v := 1) hx hb hr (fun t ht hW => ⟨⟨1, (), rfl, (rfl), by rw [ht]; exact hP9, va_K.moved hW.alike hK, hD9⟩, hS.F ht⟩) hS.2.2 dL_eighths_14
set_option maxHeartbeats 4000000 in
set_option maxRecDepth 100000 in
theorem c_L_bits (l : Launch) (D : va_G) (cI : ClassId) (cZ : ClassId) (o : Nat) (q1 : Nat) (q2 : Nat) (q3 : Nat) (q4 : Nat) (sz : Nat) (hf : Nat → Int32) (bf : Nat → Int32) (i0 : Int32) (cL : ClassId) (qL : Nat) (lf : Nat → Int64) (gp0 : vp_in i0 12) (gH : ny_H hf) : Met l yL_bits wsL_bits ({ frames := 4, cells := 0, slots := 0, locals := 93 }) (va_Pc [.ref o, .int i0, .ref qL] (ny_pre D [(cI, .int), (cZ, .boolean), (cL, .long)] [(o, .inr (3, [.ref q1, .ref q2, .ref q3, .ref q4])), (q1, .inl (cI, 12, .inl hf)), (q2, .inl (cZ, 12, .inl bf)), (qL, .inl (cL, 1, .inr (.inl lf)))] sz)) (va_Qi (fun (r : Int32) (u : Unit) => r = 0) (fun (u : Unit) t => ny_at D [(cI, .int), (cZ, .boolean), (cL, .long)] (va_A [(o, .inr (3, [.ref q1, .ref q2, .ref q3, .ref q4])), (q1, .inl (cI, 12, .inl hf)), (q2, .inl (cZ, 12, .inl bf)), (qL, .inl (cL, 1, .inr (.inl lf)))] sz) [(o, .inr (3, [.ref q1, .ref q2, .ref q3, .ref q4])), (q1, .inl (cI, 12, .inl hf)), (q2, .inl (cZ, 12, .inl bf)), (qL, .inl (cL, 1, .inr (.inl (vp_updL lf (0 : Int32).toNatClampNeg (f_bt (hf i0.toNatClampNeg) (bf i0.toNatClampNeg))))))] t) (va_A [(o, .inr (3, [.ref q1, .ref q2, .ref q3, .ref q4])), (q1, .inl (cI, 12, .inl hf)), (q2, .inl (cZ, 12, .inl bf)), (qL, .inl (cL, 1, .inr (.inl lf)))] sz)) 0 0 (va_A [(o, .inr (3, [.ref q1, .ref q2, .ref q3, .ref q4])), (q1, .inl (cI, 12, .inl hf)), (q2, .inl (cZ, 12, .inl bf)), (qL, .inl (cL, 1, .inr (.inl lf)))] sz) := by
  refine va_MetW (cc := cL_bits) (maxL := 4) (ret := (some .int)) (by decide) rfl ?_
  intro p e s m args below meth c s₁ B hml hv
  obtain ⟨rfl, hsz, hP, hK, hD0, hE⟩ := hv
  have hx := B.exec
  have hb := B.bytes
  have hr := B.returns
  have hts := atoms_spec (ws := wsL_bits) B.pre
  have hown : s.vm.findClass RL = some m.cls := findClass_of_methodNamed B.named
  have hlocks := B.notSynchronized
  have htab := vx_table (x := yL_bits) B (hts _ List.mem_cons_self)
  subst hsz
  have hD := hD0.self (sz := s.heap.size)
  generalize hAe : va_A [(o, .inr (3, [.ref q1, .ref q2, .ref q3, .ref q4])), (q1, .inl (cI, 12, .inl hf)), (q2, .inl (cZ, 12, .inl bf)), (qL, .inl (cL, 1, .inr (.inl lf)))] s.heap.size = A at hD hE ⊢
  have hA : ∀ q : Nat, s.heap.size ≤ q → A q := fun q h => by rw [← hAe]; exact Or.inr h
  have hS : va_S A s.heap s.heap [] := va_S.rf
  have hl := lv_entry ([.ref o, .int i0, .ref qL]) (n := 4) (Nat.le_of_ble_eq_true rfl)
  rw [lg_entry_eq]
  generalize (lg_sl ([.ref o, .int i0, .ref qL]) ++ List.replicate (4 - (lg_sl ([.ref o, .int i0, .ref qL])).length) Slot.unset).toArray = ls at hl ⊢
  have hl : lv_has ls 4 [(0, .ref o), (1, .int i0), (2, .ref qL)] := hl
  refine lv_aload_n hx hb dL_bits_0 rfl (lv_at hl 2 rfl) ?_
  refine lv_iconst (v := 0) hx hb dL_bits_1 (by decide) ?_
  refine lv_aload_n hx hb dL_bits_2 rfl (lv_at hl 0 rfl) ?_
  refine lv_iload_n hx hb dL_bits_3 rfl (lv_at hl 1 rfl) ?_
  refine vp_callSl (va_Run.run (va_runV (As := [.int i0]) (rest := [.int 0, .ref qL]) ⟨hx, hb, hml, hown, hts⟩ (c_X1_bits l D cI cZ o q1 q2 q3 q4 s.heap.size hf bf i0 (by assumption) (by assumption)) (cwV 1 hts gL_bits_X1_bits rfl rfl rfl (by decide +kernel) ⟨Nat.le_of_ble_eq_true rfl, Nat.le_of_ble_eq_true rfl⟩) ⟨ny_blind, va_recv hK hP (ci := 3) (q0 := 0) rfl rfl, fun U hU hW => ⟨rfl, ny_preU hE hP hK hD hS hA [0, 1, 2] rfl (by decide) rfl [0, 1] rfl U hU hW⟩⟩ rfl rfl hl.1 rfl (lv_room (Nat.le_of_ble_eq_true rfl)) dL_bits_4 ⟨Nat.le_of_ble_eq_true rfl, Nat.le_of_ble_eq_true rfl⟩)) (fun r_4 hw_4 => ?_)
  have hw_4 : r_4 = f_bt (hf i0.toNatClampNeg) (bf i0.toNatClampNeg) := hw_4
  subst hw_4
  refine va_last hx hb hK hP hD hS 3 2 rfl rfl (vp_in_iff.mpr (by decide)) dL_bits_7 (fun H locs hP hD hS => ?_)
  have hP : va_P D vwCl [(o, .inr (3, [.ref q1, .ref q2, .ref q3, .ref q4])), (q1, .inl (cI, 12, .inl hf)), (q2, .inl (cZ, 12, .inl bf)), (qL, .inl (cL, 1, .inr (.inl (vp_updL lf (0 : Int32).toNatClampNeg (f_bt (hf i0.toNatClampNeg) (bf i0.toNatClampNeg))))))] H := hP
  have hD : va_D A [(o, .inr (3, [.ref q1, .ref q2, .ref q3, .ref q4])), (q1, .inl (cI, 12, .inl hf)), (q2, .inl (cZ, 12, .inl bf)), (qL, .inl (cL, 1, .inr (.inl (vp_updL lf (0 : Int32).toNatClampNeg (f_bt (hf i0.toNatClampNeg) (bf i0.toNatClampNeg))))))] := hD
  refine lv_goto (tgt := 14) hx hb dL_bits_8 (by decide) ?_
  refine lv_iconst (v := 0) hx hb dL_bits_14 (by decide) ?_
  have hP9 := hP.sub (ws' := [(o, .inr (3, [.ref q1, .ref q2, .ref q3, .ref q4])), (q1, .inl (cI, 12, .inl hf)), (q2, .inl (cZ, 12, .inl bf)), (qL, .inl (cL, 1, .inr (.inl (vp_updL lf (0 : Int32).toNatClampNeg (f_bt (hf i0.toNatClampNeg) (bf i0.toNatClampNeg))))))]) [0, 1, 2, 3] rfl
  have hD9 := hD.sub (ws' := [(o, .inr (3, [.ref q1, .ref q2, .ref q3, .ref q4])), (q1, .inl (cI, 12, .inl hf)), (q2, .inl (cZ, 12, .inl bf)), (qL, .inl (cL, 1, .inr (.inl (vp_updL lf (0 : Int32).toNatClampNeg (f_bt (hf i0.toNatClampNeg) (bf i0.toNatClampNeg))))))]) [0, 1, 2, 3] (by decide) rfl
  exact W.iret (v := 0) hx hb hr (fun t ht hW => ⟨⟨0, (), rfl, (rfl), by rw [ht]; exact hP9, va_K.moved hW.alike hK, hD9⟩, hS.F ht⟩) hS.2.2 dL_bits_15
set_option maxHeartbeats 4000000 in
set_option maxRecDepth 100000 in
theorem c_L_bits_noP (l : Launch) (D : va_G) (cI : ClassId) (cZ : ClassId) (o : Nat) (q1 : Nat) (q2 : Nat) (q3 : Nat) (q4 : Nat) (sz : Nat) (hf : Nat → Int32) (bf : Nat → Int32) (i0 : Int32) (cL : ClassId) (qL : Nat) (lf : Nat → Int64) (gl : l.stackTraces = false) (gb : ¬ vp_in i0 12) : Met l yL_bits wsL_bits ({ frames := 8, cells := 1, slots := 6, locals := 131 }) (va_Pc [.ref o, .int i0, .ref qL] (ny_pre D [(cI, .int), (cZ, .boolean), (cL, .long)] [(o, .inr (3, [.ref q1, .ref q2, .ref q3, .ref q4])), (q1, .inl (cI, 12, .inl hf)), (q2, .inl (cZ, 12, .inl bf)), (qL, .inl (cL, 1, .inr (.inl lf)))] sz)) (va_Qi (fun (r : Int32) (u : Unit) => r = 1) (fun (u : Unit) t => ny_at D [(cI, .int), (cZ, .boolean), (cL, .long)] (va_A [(o, .inr (3, [.ref q1, .ref q2, .ref q3, .ref q4])), (q1, .inl (cI, 12, .inl hf)), (q2, .inl (cZ, 12, .inl bf)), (qL, .inl (cL, 1, .inr (.inl lf)))] sz) [(o, .inr (3, [.ref q1, .ref q2, .ref q3, .ref q4])), (q1, .inl (cI, 12, .inl hf)), (q2, .inl (cZ, 12, .inl bf)), (qL, .inl (cL, 1, .inr (.inl lf)))] t) (va_A [(o, .inr (3, [.ref q1, .ref q2, .ref q3, .ref q4])), (q1, .inl (cI, 12, .inl hf)), (q2, .inl (cZ, 12, .inl bf)), (qL, .inl (cL, 1, .inr (.inl lf)))] sz)) 1 6 (va_A [(o, .inr (3, [.ref q1, .ref q2, .ref q3, .ref q4])), (q1, .inl (cI, 12, .inl hf)), (q2, .inl (cZ, 12, .inl bf)), (qL, .inl (cL, 1, .inr (.inl lf)))] sz) := by
  refine va_MetW (cc := cL_bits) (maxL := 4) (ret := (some .int)) (by decide) rfl ?_
  intro p e s m args below meth c s₁ B hml hv
  obtain ⟨rfl, hsz, hP, hK, hD0, hE⟩ := hv
  have hx := B.exec
  have hb := B.bytes
  have hr := B.returns
  have hts := atoms_spec (ws := wsL_bits) B.pre
  have hown : s.vm.findClass RL = some m.cls := findClass_of_methodNamed B.named
  have hlocks := B.notSynchronized
  have htab := vx_table (x := yL_bits) B (hts _ List.mem_cons_self)
  subst hsz
  have hD := hD0.self (sz := s.heap.size)
  generalize hAe : va_A [(o, .inr (3, [.ref q1, .ref q2, .ref q3, .ref q4])), (q1, .inl (cI, 12, .inl hf)), (q2, .inl (cZ, 12, .inl bf)), (qL, .inl (cL, 1, .inr (.inl lf)))] s.heap.size = A at hD hE ⊢
  have hA : ∀ q : Nat, s.heap.size ≤ q → A q := fun q h => by rw [← hAe]; exact Or.inr h
  have hS : va_S A s.heap s.heap [] := va_S.rf
  have hl := lv_entry ([.ref o, .int i0, .ref qL]) (n := 4) (Nat.le_of_ble_eq_true rfl)
  rw [lg_entry_eq]
  generalize (lg_sl ([.ref o, .int i0, .ref qL]) ++ List.replicate (4 - (lg_sl ([.ref o, .int i0, .ref qL])).length) Slot.unset).toArray = ls at hl ⊢
  have hl : lv_has ls 4 [(0, .ref o), (1, .int i0), (2, .ref qL)] := hl
  refine lv_aload_n hx hb dL_bits_0 rfl (lv_at hl 2 rfl) ?_
  refine lv_iconst (v := 0) hx hb dL_bits_1 (by decide) ?_
  refine lv_aload_n hx hb dL_bits_2 rfl (lv_at hl 0 rfl) ?_
  refine lv_iload_n hx hb dL_bits_3 rfl (lv_at hl 1 rfl) ?_
  refine ny_x hS (va_free (wc := [(o, .inr (3, [.ref q1, .ref q2, .ref q3, .ref q4])), (q1, .inl (cI, 12, .inl hf)), (q2, .inl (cZ, 12, .inl bf))]) hD hS hA [0, 1, 2] rfl) (vx_runV (As := [.int i0]) (rest := [.int 0, .ref qL]) ⟨hx, hb, hml, hown, hts⟩ (c_X1_bits_noP l D cI cZ o q1 q2 q3 q4 s.heap.size hf bf i0 (by assumption) (by assumption)) (cwV 1 hts gL_bits_X1_bits rfl rfl rfl (by decide +kernel) ⟨Nat.le_of_ble_eq_true rfl, Nat.le_of_ble_eq_true rfl⟩) ⟨ny_blind, va_recv hK hP (ci := 3) (q0 := 0) rfl rfl, fun U hU hW => ⟨rfl, ny_preU hE hP hK hD hS hA [0, 1, 2] rfl (by decide) rfl [0, 1] rfl U hU hW⟩⟩ rfl rfl hl.1 rfl (lv_room (Nat.le_of_ble_eq_true rfl)) dL_bits_4 ⟨Nat.le_of_ble_eq_true rfl, Nat.le_of_ble_eq_true rfl⟩) (fun ce q9 H locs hz9 hk9 hS hc9 hv9 hn9 => ?_)
  have hP : va_P D vwCl [(o, .inr (3, [.ref q1, .ref q2, .ref q3, .ref q4])), (q1, .inl (cI, 12, .inl hf)), (q2, .inl (cZ, 12, .inl bf)), (qL, .inl (cL, 1, .inr (.inl lf)))] H := ny_keep hP hk9
  refine vx_catch (own := RL) (name := ny_IO) (E := ny_IO) hown (tableOf []) ⟨0, 8, 11, 13⟩ (tableOf []) (htab.trans rfl) (fun z hz => absurd hz List.not_mem_nil) (by decide) (by decide) (hts (.classLink RL 13 "java/lang/IndexOutOfBoundsException") (List.mem_of_getElem? (i := 1) rfl)) (va_Nw.use rfl (hE.2.2.2.2.1 _ (List.mem_of_getElem? (i := 0) rfl))) hc9 hv9 hn9 ?_
  refine W.eq (g2 := F0 m 11 ls [.ref q9]) rfl ?_
  refine lv_astore_n (lv' := [(3, .ref q9), (0, .ref o), (1, .int i0), (2, .ref qL)]) hx hb dL_bits_11 rfl hl (by decide) rfl (fun ls hl => ?_)
  refine lv_iconst (v := 1) hx hb dL_bits_12 (by decide) ?_
  have hP9 := hP.sub (ws' := [(o, .inr (3, [.ref q1, .ref q2, .ref q3, .ref q4])), (q1, .inl (cI, 12, .inl hf)), (q2, .inl (cZ, 12, .inl bf)), (qL, .inl (cL, 1, .inr (.inl lf)))]) [0, 1, 2, 3] rfl
  have hD9 := hD.sub (ws' := [(o, .inr (3, [.ref q1, .ref q2, .ref q3, .ref q4])), (q1, .inl (cI, 12, .inl hf)), (q2, .inl (cZ, 12, .inl bf)), (qL, .inl (cL, 1, .inr (.inl lf)))]) [0, 1, 2, 3] (by decide) rfl
  refine W.widen (k := 1) (n := 6) (Nat.le_of_ble_eq_true rfl) (Nat.le_of_ble_eq_true rfl) ?_
  exact W.iret (v := 1) hx hb hr (fun t ht hW => ⟨⟨1, (), rfl, (rfl), by rw [ht]; exact hP9, va_K.moved hW.alike hK, hD9⟩, hS.F ht⟩) hS.2.2 dL_bits_13
set_option maxHeartbeats 4000000 in
set_option maxRecDepth 100000 in
theorem c_L_number (l : Launch) (D : va_G) (cI : ClassId) (cZ : ClassId) (o : Nat) (q1 : Nat) (q2 : Nat) (q3 : Nat) (q4 : Nat) (sz : Nat) (hf : Nat → Int32) (bf : Nat → Int32) (i0 : Int32) (cL : ClassId) (qL : Nat) (lf : Nat → UInt64) (gp0 : vp_in i0 12) (gH : ny_H hf) : Met l yL_number wsL_number ({ frames := 2, cells := 0, slots := 0, locals := 41 }) (va_Pc [.ref o, .int i0, .ref qL] (ny_pre D [(cI, .int), (cZ, .boolean), (cL, .double)] [(o, .inr (3, [.ref q1, .ref q2, .ref q3, .ref q4])), (q1, .inl (cI, 12, .inl hf)), (q2, .inl (cZ, 12, .inl bf)), (qL, .inl (cL, 1, .inr (.inr (.inr (.inl lf)))))] sz)) (va_Qi (fun (r : Int32) (u : Unit) => r = 0) (fun (u : Unit) t => ny_at D [(cI, .int), (cZ, .boolean), (cL, .double)] (va_A [(o, .inr (3, [.ref q1, .ref q2, .ref q3, .ref q4])), (q1, .inl (cI, 12, .inl hf)), (q2, .inl (cZ, 12, .inl bf)), (qL, .inl (cL, 1, .inr (.inr (.inr (.inl lf)))))] sz) [(o, .inr (3, [.ref q1, .ref q2, .ref q3, .ref q4])), (q1, .inl (cI, 12, .inl hf)), (q2, .inl (cZ, 12, .inl bf)), (qL, .inl (cL, 1, .inr (.inr (.inr (.inl (vf_upd lf (0 : Int32).toNatClampNeg (f_num (hf i0.toNatClampNeg) (bf i0.toNatClampNeg))))))))] t) (va_A [(o, .inr (3, [.ref q1, .ref q2, .ref q3, .ref q4])), (q1, .inl (cI, 12, .inl hf)), (q2, .inl (cZ, 12, .inl bf)), (qL, .inl (cL, 1, .inr (.inr (.inr (.inl lf)))))] sz)) 0 0 (va_A [(o, .inr (3, [.ref q1, .ref q2, .ref q3, .ref q4])), (q1, .inl (cI, 12, .inl hf)), (q2, .inl (cZ, 12, .inl bf)), (qL, .inl (cL, 1, .inr (.inr (.inr (.inl lf)))))] sz) := by
  refine va_MetW (cc := cL_number) (maxL := 4) (ret := (some .int)) (by decide) rfl ?_
  intro p e s m args below meth c s₁ B hml hv
  obtain ⟨rfl, hsz, hP, hK, hD0, hE⟩ := hv
  have hx := B.exec
  have hb := B.bytes
  have hr := B.returns
  have hts := atoms_spec (ws := wsL_number) B.pre
  have hown : s.vm.findClass RL = some m.cls := findClass_of_methodNamed B.named
  have hlocks := B.notSynchronized
  have htab := vx_table (x := yL_number) B (hts _ List.mem_cons_self)
  subst hsz
  have hD := hD0.self (sz := s.heap.size)
  generalize hAe : va_A [(o, .inr (3, [.ref q1, .ref q2, .ref q3, .ref q4])), (q1, .inl (cI, 12, .inl hf)), (q2, .inl (cZ, 12, .inl bf)), (qL, .inl (cL, 1, .inr (.inr (.inr (.inl lf)))))] s.heap.size = A at hD hE ⊢
  have hA : ∀ q : Nat, s.heap.size ≤ q → A q := fun q h => by rw [← hAe]; exact Or.inr h
  have hS : va_S A s.heap s.heap [] := va_S.rf
  have hl := lv_entry ([.ref o, .int i0, .ref qL]) (n := 4) (Nat.le_of_ble_eq_true rfl)
  rw [lg_entry_eq]
  generalize (lg_sl ([.ref o, .int i0, .ref qL]) ++ List.replicate (4 - (lg_sl ([.ref o, .int i0, .ref qL])).length) Slot.unset).toArray = ls at hl ⊢
  have hl : lv_has ls 4 [(0, .ref o), (1, .int i0), (2, .ref qL)] := hl
  refine lv_aload_n hx hb dL_number_0 rfl (lv_at hl 2 rfl) ?_
  refine lv_iconst (v := 0) hx hb dL_number_1 (by decide) ?_
  refine lv_aload_n hx hb dL_number_2 rfl (lv_at hl 0 rfl) ?_
  refine lv_iload_n hx hb dL_number_3 rfl (lv_at hl 1 rfl) ?_
  refine vp_callSd (va_Run.run (va_runV (As := [.int i0]) (rest := [.int 0, .ref qL]) ⟨hx, hb, hml, hown, hts⟩ (c_X1_number l D cI cZ o q1 q2 q3 q4 s.heap.size hf bf i0 (by assumption) (by assumption)) (cwV 1 hts gL_number_X1_number rfl rfl rfl (by decide +kernel) ⟨Nat.le_of_ble_eq_true rfl, Nat.le_of_ble_eq_true rfl⟩) ⟨ny_blind, va_recv hK hP (ci := 3) (q0 := 0) rfl rfl, fun U hU hW => ⟨rfl, ny_preU hE hP hK hD hS hA [0, 1, 2] rfl (by decide) rfl [0, 1] rfl U hU hW⟩⟩ rfl rfl hl.1 rfl (lv_room (Nat.le_of_ble_eq_true rfl)) dL_number_4 ⟨Nat.le_of_ble_eq_true rfl, Nat.le_of_ble_eq_true rfl⟩)) (fun r_4 hw_4 => ?_)
  have hw_4 : r_4 = f_num (hf i0.toNatClampNeg) (bf i0.toNatClampNeg) := hw_4
  subst hw_4
  refine va_dast hx hb hK hP hD hS 3 2 rfl rfl (vp_in_iff.mpr (by decide)) dL_number_7 (fun H locs hP hD hS => ?_)
  have hP : va_P D vwCl [(o, .inr (3, [.ref q1, .ref q2, .ref q3, .ref q4])), (q1, .inl (cI, 12, .inl hf)), (q2, .inl (cZ, 12, .inl bf)), (qL, .inl (cL, 1, .inr (.inr (.inr (.inl (vf_upd lf (0 : Int32).toNatClampNeg (f_num (hf i0.toNatClampNeg) (bf i0.toNatClampNeg))))))))] H := hP
  have hD : va_D A [(o, .inr (3, [.ref q1, .ref q2, .ref q3, .ref q4])), (q1, .inl (cI, 12, .inl hf)), (q2, .inl (cZ, 12, .inl bf)), (qL, .inl (cL, 1, .inr (.inr (.inr (.inl (vf_upd lf (0 : Int32).toNatClampNeg (f_num (hf i0.toNatClampNeg) (bf i0.toNatClampNeg))))))))] := hD
  refine lv_goto (tgt := 14) hx hb dL_number_8 (by decide) ?_
  refine lv_iconst (v := 0) hx hb dL_number_14 (by decide) ?_
  have hP9 := hP.sub (ws' := [(o, .inr (3, [.ref q1, .ref q2, .ref q3, .ref q4])), (q1, .inl (cI, 12, .inl hf)), (q2, .inl (cZ, 12, .inl bf)), (qL, .inl (cL, 1, .inr (.inr (.inr (.inl (vf_upd lf (0 : Int32).toNatClampNeg (f_num (hf i0.toNatClampNeg) (bf i0.toNatClampNeg))))))))]) [0, 1, 2, 3] rfl
  have hD9 := hD.sub (ws' := [(o, .inr (3, [.ref q1, .ref q2, .ref q3, .ref q4])), (q1, .inl (cI, 12, .inl hf)), (q2, .inl (cZ, 12, .inl bf)), (qL, .inl (cL, 1, .inr (.inr (.inr (.inl (vf_upd lf (0 : Int32).toNatClampNeg (f_num (hf i0.toNatClampNeg) (bf i0.toNatClampNeg))))))))]) [0, 1, 2, 3] (by decide) rfl
  exact W.iret (v := 0) hx hb hr (fun t ht hW => ⟨⟨0, (), rfl, (rfl), by rw [ht]; exact hP9, va_K.moved hW.alike hK, hD9⟩, hS.F ht⟩) hS.2.2 dL_number_15
set_option maxHeartbeats 4000000 in
set_option maxRecDepth 100000 in
theorem c_L_number_noP (l : Launch) (D : va_G) (cI : ClassId) (cZ : ClassId) (o : Nat) (q1 : Nat) (q2 : Nat) (q3 : Nat) (q4 : Nat) (sz : Nat) (hf : Nat → Int32) (bf : Nat → Int32) (i0 : Int32) (cL : ClassId) (qL : Nat) (lf : Nat → UInt64) (gl : l.stackTraces = false) (gb : ¬ vp_in i0 12) : Met l yL_number wsL_number ({ frames := 8, cells := 1, slots := 6, locals := 131 }) (va_Pc [.ref o, .int i0, .ref qL] (ny_pre D [(cI, .int), (cZ, .boolean), (cL, .double)] [(o, .inr (3, [.ref q1, .ref q2, .ref q3, .ref q4])), (q1, .inl (cI, 12, .inl hf)), (q2, .inl (cZ, 12, .inl bf)), (qL, .inl (cL, 1, .inr (.inr (.inr (.inl lf)))))] sz)) (va_Qi (fun (r : Int32) (u : Unit) => r = 1) (fun (u : Unit) t => ny_at D [(cI, .int), (cZ, .boolean), (cL, .double)] (va_A [(o, .inr (3, [.ref q1, .ref q2, .ref q3, .ref q4])), (q1, .inl (cI, 12, .inl hf)), (q2, .inl (cZ, 12, .inl bf)), (qL, .inl (cL, 1, .inr (.inr (.inr (.inl lf)))))] sz) [(o, .inr (3, [.ref q1, .ref q2, .ref q3, .ref q4])), (q1, .inl (cI, 12, .inl hf)), (q2, .inl (cZ, 12, .inl bf)), (qL, .inl (cL, 1, .inr (.inr (.inr (.inl lf)))))] t) (va_A [(o, .inr (3, [.ref q1, .ref q2, .ref q3, .ref q4])), (q1, .inl (cI, 12, .inl hf)), (q2, .inl (cZ, 12, .inl bf)), (qL, .inl (cL, 1, .inr (.inr (.inr (.inl lf)))))] sz)) 1 6 (va_A [(o, .inr (3, [.ref q1, .ref q2, .ref q3, .ref q4])), (q1, .inl (cI, 12, .inl hf)), (q2, .inl (cZ, 12, .inl bf)), (qL, .inl (cL, 1, .inr (.inr (.inr (.inl lf)))))] sz) := by
  refine va_MetW (cc := cL_number) (maxL := 4) (ret := (some .int)) (by decide) rfl ?_
  intro p e s m args below meth c s₁ B hml hv
  obtain ⟨rfl, hsz, hP, hK, hD0, hE⟩ := hv
  have hx := B.exec
  have hb := B.bytes
  have hr := B.returns
  have hts := atoms_spec (ws := wsL_number) B.pre
  have hown : s.vm.findClass RL = some m.cls := findClass_of_methodNamed B.named
  have hlocks := B.notSynchronized
  have htab := vx_table (x := yL_number) B (hts _ List.mem_cons_self)
  subst hsz
  have hD := hD0.self (sz := s.heap.size)
  generalize hAe : va_A [(o, .inr (3, [.ref q1, .ref q2, .ref q3, .ref q4])), (q1, .inl (cI, 12, .inl hf)), (q2, .inl (cZ, 12, .inl bf)), (qL, .inl (cL, 1, .inr (.inr (.inr (.inl lf)))))] s.heap.size = A at hD hE ⊢
  have hA : ∀ q : Nat, s.heap.size ≤ q → A q := fun q h => by rw [← hAe]; exact Or.inr h
  have hS : va_S A s.heap s.heap [] := va_S.rf
  have hl := lv_entry ([.ref o, .int i0, .ref qL]) (n := 4) (Nat.le_of_ble_eq_true rfl)
  rw [lg_entry_eq]
  generalize (lg_sl ([.ref o, .int i0, .ref qL]) ++ List.replicate (4 - (lg_sl ([.ref o, .int i0, .ref qL])).length) Slot.unset).toArray = ls at hl ⊢
  have hl : lv_has ls 4 [(0, .ref o), (1, .int i0), (2, .ref qL)] := hl
  refine lv_aload_n hx hb dL_number_0 rfl (lv_at hl 2 rfl) ?_
  refine lv_iconst (v := 0) hx hb dL_number_1 (by decide) ?_
  refine lv_aload_n hx hb dL_number_2 rfl (lv_at hl 0 rfl) ?_
  refine lv_iload_n hx hb dL_number_3 rfl (lv_at hl 1 rfl) ?_
  refine ny_x hS (va_free (wc := [(o, .inr (3, [.ref q1, .ref q2, .ref q3, .ref q4])), (q1, .inl (cI, 12, .inl hf)), (q2, .inl (cZ, 12, .inl bf))]) hD hS hA [0, 1, 2] rfl) (vx_runV (As := [.int i0]) (rest := [.int 0, .ref qL]) ⟨hx, hb, hml, hown, hts⟩ (c_X1_number_noP l D cI cZ o q1 q2 q3 q4 s.heap.size hf bf i0 (by assumption) (by assumption)) (cwV 1 hts gL_number_X1_number rfl rfl rfl (by decide +kernel) ⟨Nat.le_of_ble_eq_true rfl, Nat.le_of_ble_eq_true rfl⟩) ⟨ny_blind, va_recv hK hP (ci := 3) (q0 := 0) rfl rfl, fun U hU hW => ⟨rfl, ny_preU hE hP hK hD hS hA [0, 1, 2] rfl (by decide) rfl [0, 1] rfl U hU hW⟩⟩ rfl rfl hl.1 rfl (lv_room (Nat.le_of_ble_eq_true rfl)) dL_number_4 ⟨Nat.le_of_ble_eq_true rfl, Nat.le_of_ble_eq_true rfl⟩) (fun ce q9 H locs hz9 hk9 hS hc9 hv9 hn9 => ?_)
  have hP : va_P D vwCl [(o, .inr (3, [.ref q1, .ref q2, .ref q3, .ref q4])), (q1, .inl (cI, 12, .inl hf)), (q2, .inl (cZ, 12, .inl bf)), (qL, .inl (cL, 1, .inr (.inr (.inr (.inl lf)))))] H := ny_keep hP hk9
  refine vx_catch (own := RL) (name := ny_IO) (E := ny_IO) hown (tableOf []) ⟨0, 8, 11, 13⟩ (tableOf []) (htab.trans rfl) (fun z hz => absurd hz List.not_mem_nil) (by decide) (by decide) (hts (.classLink RL 13 "java/lang/IndexOutOfBoundsException") (List.mem_of_getElem? (i := 1) rfl)) (va_Nw.use rfl (hE.2.2.2.2.1 _ (List.mem_of_getElem? (i := 0) rfl))) hc9 hv9 hn9 ?_
  refine W.eq (g2 := F0 m 11 ls [.ref q9]) rfl ?_
  refine lv_astore_n (lv' := [(3, .ref q9), (0, .ref o), (1, .int i0), (2, .ref qL)]) hx hb dL_number_11 rfl hl (by decide) rfl (fun ls hl => ?_)
  refine lv_iconst (v := 1) hx hb dL_number_12 (by decide) ?_
  have hP9 := hP.sub (ws' := [(o, .inr (3, [.ref q1, .ref q2, .ref q3, .ref q4])), (q1, .inl (cI, 12, .inl hf)), (q2, .inl (cZ, 12, .inl bf)), (qL, .inl (cL, 1, .inr (.inr (.inr (.inl lf)))))]) [0, 1, 2, 3] rfl
  have hD9 := hD.sub (ws' := [(o, .inr (3, [.ref q1, .ref q2, .ref q3, .ref q4])), (q1, .inl (cI, 12, .inl hf)), (q2, .inl (cZ, 12, .inl bf)), (qL, .inl (cL, 1, .inr (.inr (.inr (.inl lf)))))]) [0, 1, 2, 3] (by decide) rfl
  refine W.widen (k := 1) (n := 6) (Nat.le_of_ble_eq_true rfl) (Nat.le_of_ble_eq_true rfl) ?_
  exact W.iret (v := 1) hx hb hr (fun t ht hW => ⟨⟨1, (), rfl, (rfl), by rw [ht]; exact hP9, va_K.moved hW.alike hK, hD9⟩, hS.F ht⟩) hS.2.2 dL_number_13
set_option maxHeartbeats 4000000 in
set_option maxRecDepth 100000 in
theorem c_L_rest (l : Launch) (D : va_G) (cI : ClassId) (cZ : ClassId) (o : Nat) (q1 : Nat) (q2 : Nat) (q3 : Nat) (q4 : Nat) (sz : Nat) (hf : Nat → Int32) (bf : Nat → Int32) (i0 : Int32) (i1 : Int32) (i2 : Int32) (cL : ClassId) (qL : Nat) (lf : Nat → Int64) (gp0 : vp_in i0 12) (gp1 : vp_in i1 12) (gp2 : vp_in i2 12) (g0 : ¬ hf i2.toNatClampNeg = 0) (gH : ny_H hf) (gB : ny_BB bf) : Met l yL_rest wsL_rest ({ frames := 7, cells := 0, slots := 0, locals := 164 }) (va_Pc [.ref o, .int i0, .int i1, .int i2, .ref qL] (ny_pre D [(cI, .int), (cZ, .boolean), (cL, .long)] [(o, .inr (3, [.ref q1, .ref q2, .ref q3, .ref q4])), (q1, .inl (cI, 12, .inl hf)), (q2, .inl (cZ, 12, .inl bf)), (qL, .inl (cL, 1, .inr (.inl lf)))] sz)) (va_Qi (fun (r : Int32) (u : Unit) => r = 0) (fun (u : Unit) t => ny_at D [(cI, .int), (cZ, .boolean), (cL, .long)] (va_A [(o, .inr (3, [.ref q1, .ref q2, .ref q3, .ref q4])), (q1, .inl (cI, 12, .inl hf)), (q2, .inl (cZ, 12, .inl bf)), (qL, .inl (cL, 1, .inr (.inl lf)))] sz) [(o, .inr (3, [.ref q1, .ref q2, .ref q3, .ref q4])), (q1, .inl (cI, 12, .inl (upd hf i0.toNatClampNeg (f_re (hf i1.toNatClampNeg) (hf i2.toNatClampNeg))))), (q2, .inl (cZ, 12, .inl (upd bf i0.toNatClampNeg (f_z (f_re (hf i1.toNatClampNeg) (hf i2.toNatClampNeg)) (f_un (hf i1.toNatClampNeg) (bf i1.toNatClampNeg)))))), (qL, .inl (cL, 1, .inr (.inl (vp_updL lf (0 : Int32).toNatClampNeg (f_bt (f_re (hf i1.toNatClampNeg) (hf i2.toNatClampNeg)) (f_un (hf i1.toNatClampNeg) (bf i1.toNatClampNeg)))))))] t) (va_A [(o, .inr (3, [.ref q1, .ref q2, .ref q3, .ref q4])), (q1, .inl (cI, 12, .inl hf)), (q2, .inl (cZ, 12, .inl bf)), (qL, .inl (cL, 1, .inr (.inl lf)))] sz)) 0 0 (va_A [(o, .inr (3, [.ref q1, .ref q2, .ref q3, .ref q4])), (q1, .inl (cI, 12, .inl hf)), (q2, .inl (cZ, 12, .inl bf)), (qL, .inl (cL, 1, .inr (.inl lf)))] sz) := by
  refine va_MetW (cc := cL_rest) (maxL := 6) (ret := (some .int)) (by decide) rfl ?_
  intro p e s m args below meth c s₁ B hml hv
  obtain ⟨rfl, hsz, hP, hK, hD0, hE⟩ := hv
  have hx := B.exec
  have hb := B.bytes
  have hr := B.returns
  have hts := atoms_spec (ws := wsL_rest) B.pre
  have hown : s.vm.findClass RL = some m.cls := findClass_of_methodNamed B.named
  have hlocks := B.notSynchronized
  have htab := vx_table (x := yL_rest) B (hts _ List.mem_cons_self)
  subst hsz
  have hD := hD0.self (sz := s.heap.size)
  generalize hAe : va_A [(o, .inr (3, [.ref q1, .ref q2, .ref q3, .ref q4])), (q1, .inl (cI, 12, .inl hf)), (q2, .inl (cZ, 12, .inl bf)), (qL, .inl (cL, 1, .inr (.inl lf)))] s.heap.size = A at hD hE ⊢
  have hA : ∀ q : Nat, s.heap.size ≤ q → A q := fun q h => by rw [← hAe]; exact Or.inr h
  have hS : va_S A s.heap s.heap [] := va_S.rf
  have hl := lv_entry ([.ref o, .int i0, .int i1, .int i2, .ref qL]) (n := 6) (Nat.le_of_ble_eq_true rfl)
  rw [lg_entry_eq]
  generalize (lg_sl ([.ref o, .int i0, .int i1, .int i2, .ref qL]) ++ List.replicate (6 - (lg_sl ([.ref o, .int i0, .int i1, .int i2, .ref qL])).length) Slot.unset).toArray = ls at hl ⊢
  have hl : lv_has ls 6 [(0, .ref o), (1, .int i0), (2, .int i1), (3, .int i2), (4, .ref qL)] := hl
  refine lv_aload hx hb dL_rest_0 (lv_at hl 4 rfl) ?_
  refine lv_iconst (v := 0) hx hb dL_rest_2 (by decide) ?_
  refine lv_aload_n hx hb dL_rest_3 rfl (lv_at hl 0 rfl) ?_
  refine lv_iload_n hx hb dL_rest_4 rfl (lv_at hl 1 rfl) ?_
  refine lv_iload_n hx hb dL_rest_5 rfl (lv_at hl 2 rfl) ?_
  refine lv_iload_n hx hb dL_rest_6 rfl (lv_at hl 3 rfl) ?_
  refine ny_l (wc := [(o, .inr (3, [.ref q1, .ref q2, .ref q3, .ref q4])), (q1, .inl (cI, 12, .inl hf)), (q2, .inl (cZ, 12, .inl bf))]) (wr := [(qL, .inl (cL, 1, .inr (.inl lf)))]) hP hD hS hA [0, 1, 2] [3] rfl rfl (by decide) (by decide) (va_runV (As := [.int i0, .int i1, .int i2]) (rest := [.int 0, .ref qL]) ⟨hx, hb, hml, hown, hts⟩ (c_X1_rest l D cI cZ o q1 q2 q3 q4 s.heap.size hf bf i0 i1 i2 (by assumption) (by assumption) (by assumption) (by assumption) (by assumption) (by assumption)) (cwV 3 hts gL_rest_X1_rest rfl rfl rfl (by decide +kernel) ⟨Nat.le_of_ble_eq_true rfl, Nat.le_of_ble_eq_true rfl⟩) ⟨ny_blind, va_recv hK hP (ci := 3) (q0 := 0) rfl rfl, fun U hU hW => ⟨rfl, ny_preU hE hP hK hD hS hA [0, 1, 2] rfl (by decide) rfl [0, 1] rfl U hU hW⟩⟩ rfl rfl hl.1 rfl (lv_room (Nat.le_of_ble_eq_true rfl)) dL_rest_7 ⟨Nat.le_of_ble_eq_true rfl, Nat.le_of_ble_eq_true rfl⟩) (fun r_7 u H locs hw_7 hP hD hS => ?_)
  have hP : va_P D vwCl [(qL, .inl (cL, 1, .inr (.inl lf))), (o, .inr (3, [.ref q1, .ref q2, .ref q3, .ref q4])), (q1, .inl (cI, 12, .inl (upd hf i0.toNatClampNeg (f_re (hf i1.toNatClampNeg) (hf i2.toNatClampNeg))))), (q2, .inl (cZ, 12, .inl (upd bf i0.toNatClampNeg (f_z (f_re (hf i1.toNatClampNeg) (hf i2.toNatClampNeg)) (f_un (hf i1.toNatClampNeg) (bf i1.toNatClampNeg))))))] H := hP
  have hD : va_D A [(qL, .inl (cL, 1, .inr (.inl lf))), (o, .inr (3, [.ref q1, .ref q2, .ref q3, .ref q4])), (q1, .inl (cI, 12, .inl (upd hf i0.toNatClampNeg (f_re (hf i1.toNatClampNeg) (hf i2.toNatClampNeg))))), (q2, .inl (cZ, 12, .inl (upd bf i0.toNatClampNeg (f_z (f_re (hf i1.toNatClampNeg) (hf i2.toNatClampNeg)) (f_un (hf i1.toNatClampNeg) (bf i1.toNatClampNeg))))))] := hD
  have hw_7 : r_7 = f_bt (f_re (hf i1.toNatClampNeg) (hf i2.toNatClampNeg)) (f_un (hf i1.toNatClampNeg) (bf i1.toNatClampNeg)) := hw_7
  subst hw_7
  refine va_last hx hb hK hP hD hS 0 2 rfl rfl (vp_in_iff.mpr (by decide)) dL_rest_10 (fun H locs hP hD hS => ?_)
  have hP : va_P D vwCl [(qL, .inl (cL, 1, .inr (.inl (vp_updL lf (0 : Int32).toNatClampNeg (f_bt (f_re (hf i1.toNatClampNeg) (hf i2.toNatClampNeg)) (f_un (hf i1.toNatClampNeg) (bf i1.toNatClampNeg))))))), (o, .inr (3, [.ref q1, .ref q2, .ref q3, .ref q4])), (q1, .inl (cI, 12, .inl (upd hf i0.toNatClampNeg (f_re (hf i1.toNatClampNeg) (hf i2.toNatClampNeg))))), (q2, .inl (cZ, 12, .inl (upd bf i0.toNatClampNeg (f_z (f_re (hf i1.toNatClampNeg) (hf i2.toNatClampNeg)) (f_un (hf i1.toNatClampNeg) (bf i1.toNatClampNeg))))))] H := hP
  have hD : va_D A [(qL, .inl (cL, 1, .inr (.inl (vp_updL lf (0 : Int32).toNatClampNeg (f_bt (f_re (hf i1.toNatClampNeg) (hf i2.toNatClampNeg)) (f_un (hf i1.toNatClampNeg) (bf i1.toNatClampNeg))))))), (o, .inr (3, [.ref q1, .ref q2, .ref q3, .ref q4])), (q1, .inl (cI, 12, .inl (upd hf i0.toNatClampNeg (f_re (hf i1.toNatClampNeg) (hf i2.toNatClampNeg))))), (q2, .inl (cZ, 12, .inl (upd bf i0.toNatClampNeg (f_z (f_re (hf i1.toNatClampNeg) (hf i2.toNatClampNeg)) (f_un (hf i1.toNatClampNeg) (bf i1.toNatClampNeg))))))] := hD
  refine lv_goto (tgt := 22) hx hb dL_rest_11 (by decide) ?_
  refine lv_iconst (v := 0) hx hb dL_rest_22 (by decide) ?_
  have hP9 := hP.sub (ws' := [(o, .inr (3, [.ref q1, .ref q2, .ref q3, .ref q4])), (q1, .inl (cI, 12, .inl (upd hf i0.toNatClampNeg (f_re (hf i1.toNatClampNeg) (hf i2.toNatClampNeg))))), (q2, .inl (cZ, 12, .inl (upd bf i0.toNatClampNeg (f_z (f_re (hf i1.toNatClampNeg) (hf i2.toNatClampNeg)) (f_un (hf i1.toNatClampNeg) (bf i1.toNatClampNeg)))))), (qL, .inl (cL, 1, .inr (.inl (vp_updL lf (0 : Int32).toNatClampNeg (f_bt (f_re (hf i1.toNatClampNeg) (hf i2.toNatClampNeg)) (f_un (hf i1.toNatClampNeg) (bf i1.toNatClampNeg)))))))]) [1, 2, 3, 0] rfl
  have hD9 := hD.sub (ws' := [(o, .inr (3, [.ref q1, .ref q2, .ref q3, .ref q4])), (q1, .inl (cI, 12, .inl (upd hf i0.toNatClampNeg (f_re (hf i1.toNatClampNeg) (hf i2.toNatClampNeg))))), (q2, .inl (cZ, 12, .inl (upd bf i0.toNatClampNeg (f_z (f_re (hf i1.toNatClampNeg) (hf i2.toNatClampNeg)) (f_un (hf i1.toNatClampNeg) (bf i1.toNatClampNeg)))))), (qL, .inl (cL, 1, .inr (.inl (vp_updL lf (0 : Int32).toNatClampNeg (f_bt (f_re (hf i1.toNatClampNeg) (hf i2.toNatClampNeg)) (f_un (hf i1.toNatClampNeg) (bf i1.toNatClampNeg)))))))]) [1, 2, 3, 0] (by decide) rfl
  exact W.iret (v := 0) hx hb hr (fun t ht hW => ⟨⟨0, (), rfl, (rfl), by rw [ht]; exact hP9, va_K.moved hW.alike hK, hD9⟩, hS.F ht⟩) hS.2.2 dL_rest_23
set_option maxHeartbeats 4000000 in
set_option maxRecDepth 100000 in
theorem c_L_rest_noP (l : Launch) (D : va_G) (cI : ClassId) (cZ : ClassId) (o : Nat) (q1 : Nat) (q2 : Nat) (q3 : Nat) (q4 : Nat) (sz : Nat) (hf : Nat → Int32) (bf : Nat → Int32) (i0 : Int32) (i1 : Int32) (i2 : Int32) (cL : ClassId) (qL : Nat) (lf : Nat → Int64) (gl : l.stackTraces = false) (gb : ¬ vp_in i0 12 ∨ (¬ vp_in i1 12 ∨ ¬ vp_in i2 12)) : Met l yL_rest wsL_rest ({ frames := 10, cells := 1, slots := 6, locals := 178 }) (va_Pc [.ref o, .int i0, .int i1, .int i2, .ref qL] (ny_pre D [(cI, .int), (cZ, .boolean), (cL, .long)] [(o, .inr (3, [.ref q1, .ref q2, .ref q3, .ref q4])), (q1, .inl (cI, 12, .inl hf)), (q2, .inl (cZ, 12, .inl bf)), (qL, .inl (cL, 1, .inr (.inl lf)))] sz)) (va_Qi (fun (r : Int32) (u : Unit) => r = 1) (fun (u : Unit) t => ny_at D [(cI, .int), (cZ, .boolean), (cL, .long)] (va_A [(o, .inr (3, [.ref q1, .ref q2, .ref q3, .ref q4])), (q1, .inl (cI, 12, .inl hf)), (q2, .inl (cZ, 12, .inl bf)), (qL, .inl (cL, 1, .inr (.inl lf)))] sz) [(o, .inr (3, [.ref q1, .ref q2, .ref q3, .ref q4])), (q1, .inl (cI, 12, .inl hf)), (q2, .inl (cZ, 12, .inl bf)), (qL, .inl (cL, 1, .inr (.inl lf)))] t) (va_A [(o, .inr (3, [.ref q1, .ref q2, .ref q3, .ref q4])), (q1, .inl (cI, 12, .inl hf)), (q2, .inl (cZ, 12, .inl bf)), (qL, .inl (cL, 1, .inr (.inl lf)))] sz)) 1 6 (va_A [(o, .inr (3, [.ref q1, .ref q2, .ref q3, .ref q4])), (q1, .inl (cI, 12, .inl hf)), (q2, .inl (cZ, 12, .inl bf)), (qL, .inl (cL, 1, .inr (.inl lf)))] sz) := by
  refine va_MetW (cc := cL_rest) (maxL := 6) (ret := (some .int)) (by decide) rfl ?_
  intro p e s m args below meth c s₁ B hml hv
  obtain ⟨rfl, hsz, hP, hK, hD0, hE⟩ := hv
  have hx := B.exec
  have hb := B.bytes
  have hr := B.returns
  have hts := atoms_spec (ws := wsL_rest) B.pre
  have hown : s.vm.findClass RL = some m.cls := findClass_of_methodNamed B.named
  have hlocks := B.notSynchronized
  have htab := vx_table (x := yL_rest) B (hts _ List.mem_cons_self)
  subst hsz
  have hD := hD0.self (sz := s.heap.size)
  generalize hAe : va_A [(o, .inr (3, [.ref q1, .ref q2, .ref q3, .ref q4])), (q1, .inl (cI, 12, .inl hf)), (q2, .inl (cZ, 12, .inl bf)), (qL, .inl (cL, 1, .inr (.inl lf)))] s.heap.size = A at hD hE ⊢
  have hA : ∀ q : Nat, s.heap.size ≤ q → A q := fun q h => by rw [← hAe]; exact Or.inr h
  have hS : va_S A s.heap s.heap [] := va_S.rf
  have hl := lv_entry ([.ref o, .int i0, .int i1, .int i2, .ref qL]) (n := 6) (Nat.le_of_ble_eq_true rfl)
  rw [lg_entry_eq]
  generalize (lg_sl ([.ref o, .int i0, .int i1, .int i2, .ref qL]) ++ List.replicate (6 - (lg_sl ([.ref o, .int i0, .int i1, .int i2, .ref qL])).length) Slot.unset).toArray = ls at hl ⊢
  have hl : lv_has ls 6 [(0, .ref o), (1, .int i0), (2, .int i1), (3, .int i2), (4, .ref qL)] := hl
  refine lv_aload hx hb dL_rest_0 (lv_at hl 4 rfl) ?_
  refine lv_iconst (v := 0) hx hb dL_rest_2 (by decide) ?_
  refine lv_aload_n hx hb dL_rest_3 rfl (lv_at hl 0 rfl) ?_
  refine lv_iload_n hx hb dL_rest_4 rfl (lv_at hl 1 rfl) ?_
  refine lv_iload_n hx hb dL_rest_5 rfl (lv_at hl 2 rfl) ?_
  refine lv_iload_n hx hb dL_rest_6 rfl (lv_at hl 3 rfl) ?_
  refine ny_x hS (va_free (wc := [(o, .inr (3, [.ref q1, .ref q2, .ref q3, .ref q4])), (q1, .inl (cI, 12, .inl hf)), (q2, .inl (cZ, 12, .inl bf))]) hD hS hA [0, 1, 2] rfl) (vx_runV (As := [.int i0, .int i1, .int i2]) (rest := [.int 0, .ref qL]) ⟨hx, hb, hml, hown, hts⟩ (c_X1_rest_noP l D cI cZ o q1 q2 q3 q4 s.heap.size hf bf i0 i1 i2 (by assumption) (by assumption)) (cwV 3 hts gL_rest_X1_rest rfl rfl rfl (by decide +kernel) ⟨Nat.le_of_ble_eq_true rfl, Nat.le_of_ble_eq_true rfl⟩) ⟨ny_blind, va_recv hK hP (ci := 3) (q0 := 0) rfl rfl, fun U hU hW => ⟨rfl, ny_preU hE hP hK hD hS hA [0, 1, 2] rfl (by decide) rfl [0, 1] rfl U hU hW⟩⟩ rfl rfl hl.1 rfl (lv_room (Nat.le_of_ble_eq_true rfl)) dL_rest_7 ⟨Nat.le_of_ble_eq_true rfl, Nat.le_of_ble_eq_true rfl⟩) (fun ce q9 H locs hz9 hk9 hS hc9 hv9 hn9 => ?_)
  have hP : va_P D vwCl [(o, .inr (3, [.ref q1, .ref q2, .ref q3, .ref q4])), (q1, .inl (cI, 12, .inl hf)), (q2, .inl (cZ, 12, .inl bf)), (qL, .inl (cL, 1, .inr (.inl lf)))] H := ny_keep hP hk9
  refine vx_catch (own := RL) (name := ny_IO) (E := ny_IO) hown (tableOf []) ⟨0, 11, 14, 13⟩ (tableOf [(0, 11, 18, 39)]) (htab.trans rfl) (fun z hz => absurd hz List.not_mem_nil) (by decide) (by decide) (hts (.classLink RL 13 "java/lang/IndexOutOfBoundsException") (List.mem_of_getElem? (i := 1) rfl)) (va_Nw.use rfl (hE.2.2.2.2.1 _ (List.mem_of_getElem? (i := 0) rfl))) hc9 hv9 hn9 ?_
  refine W.eq (g2 := F0 m 14 ls [.ref q9]) rfl ?_
  refine lv_astore (lv' := [(5, .ref q9), (0, .ref o), (1, .int i0), (2, .int i1), (3, .int i2), (4, .ref qL)]) hx hb dL_rest_14 hl (by decide) rfl (fun ls hl => ?_)
  refine lv_iconst (v := 1) hx hb dL_rest_16 (by decide) ?_
  have hP9 := hP.sub (ws' := [(o, .inr (3, [.ref q1, .ref q2, .ref q3, .ref q4])), (q1, .inl (cI, 12, .inl hf)), (q2, .inl (cZ, 12, .inl bf)), (qL, .inl (cL, 1, .inr (.inl lf)))]) [0, 1, 2, 3] rfl
  have hD9 := hD.sub (ws' := [(o, .inr (3, [.ref q1, .ref q2, .ref q3, .ref q4])), (q1, .inl (cI, 12, .inl hf)), (q2, .inl (cZ, 12, .inl bf)), (qL, .inl (cL, 1, .inr (.inl lf)))]) [0, 1, 2, 3] (by decide) rfl
  refine W.widen (k := 1) (n := 6) (Nat.le_of_ble_eq_true rfl) (Nat.le_of_ble_eq_true rfl) ?_
  exact W.iret (v := 1) hx hb hr (fun t ht hW => ⟨⟨1, (), rfl, (rfl), by rw [ht]; exact hP9, va_K.moved hW.alike hK, hD9⟩, hS.F ht⟩) hS.2.2 dL_rest_17
set_option maxHeartbeats 4000000 in
set_option maxRecDepth 100000 in
theorem c_L_rest_no0 (l : Launch) (D : va_G) (cI : ClassId) (cZ : ClassId) (o : Nat) (q1 : Nat) (q2 : Nat) (q3 : Nat) (q4 : Nat) (sz : Nat) (hf : Nat → Int32) (bf : Nat → Int32) (i0 : Int32) (i1 : Int32) (i2 : Int32) (cL : ClassId) (qL : Nat) (lf : Nat → Int64) (gl : l.stackTraces = false) (gp0 : vp_in i0 12) (gp1 : vp_in i1 12) (gp2 : vp_in i2 12) (g0 : hf i2.toNatClampNeg = 0) : Met l yL_rest wsL_rest ({ frames := 9, cells := 1, slots := 6, locals := 158 }) (va_Pc [.ref o, .int i0, .int i1, .int i2, .ref qL] (ny_pre D [(cI, .int), (cZ, .boolean), (cL, .long)] [(o, .inr (3, [.ref q1, .ref q2, .ref q3, .ref q4])), (q1, .inl (cI, 12, .inl hf)), (q2, .inl (cZ, 12, .inl bf)), (qL, .inl (cL, 1, .inr (.inl lf)))] sz)) (va_Qi (fun (r : Int32) (u : Unit) => r = 2) (fun (u : Unit) t => ny_at D [(cI, .int), (cZ, .boolean), (cL, .long)] (va_A [(o, .inr (3, [.ref q1, .ref q2, .ref q3, .ref q4])), (q1, .inl (cI, 12, .inl hf)), (q2, .inl (cZ, 12, .inl bf)), (qL, .inl (cL, 1, .inr (.inl lf)))] sz) [(o, .inr (3, [.ref q1, .ref q2, .ref q3, .ref q4])), (q1, .inl (cI, 12, .inl hf)), (q2, .inl (cZ, 12, .inl bf)), (qL, .inl (cL, 1, .inr (.inl lf)))] t) (va_A [(o, .inr (3, [.ref q1, .ref q2, .ref q3, .ref q4])), (q1, .inl (cI, 12, .inl hf)), (q2, .inl (cZ, 12, .inl bf)), (qL, .inl (cL, 1, .inr (.inl lf)))] sz)) 1 6 (va_A [(o, .inr (3, [.ref q1, .ref q2, .ref q3, .ref q4])), (q1, .inl (cI, 12, .inl hf)), (q2, .inl (cZ, 12, .inl bf)), (qL, .inl (cL, 1, .inr (.inl lf)))] sz) := by
  refine va_MetW (cc := cL_rest) (maxL := 6) (ret := (some .int)) (by decide) rfl ?_
  intro p e s m args below meth c s₁ B hml hv
  obtain ⟨rfl, hsz, hP, hK, hD0, hE⟩ := hv
  have hx := B.exec
  have hb := B.bytes
  have hr := B.returns
  have hts := atoms_spec (ws := wsL_rest) B.pre
  have hown : s.vm.findClass RL = some m.cls := findClass_of_methodNamed B.named
  have hlocks := B.notSynchronized
  have htab := vx_table (x := yL_rest) B (hts _ List.mem_cons_self)
  subst hsz
  have hD := hD0.self (sz := s.heap.size)
  generalize hAe : va_A [(o, .inr (3, [.ref q1, .ref q2, .ref q3, .ref q4])), (q1, .inl (cI, 12, .inl hf)), (q2, .inl (cZ, 12, .inl bf)), (qL, .inl (cL, 1, .inr (.inl lf)))] s.heap.size = A at hD hE ⊢
  have hA : ∀ q : Nat, s.heap.size ≤ q → A q := fun q h => by rw [← hAe]; exact Or.inr h
  have hS : va_S A s.heap s.heap [] := va_S.rf
  have hl := lv_entry ([.ref o, .int i0, .int i1, .int i2, .ref qL]) (n := 6) (Nat.le_of_ble_eq_true rfl)
  rw [lg_entry_eq]
  generalize (lg_sl ([.ref o, .int i0, .int i1, .int i2, .ref qL]) ++ List.replicate (6 - (lg_sl ([.ref o, .int i0, .int i1, .int i2, .ref qL])).length) Slot.unset).toArray = ls at hl ⊢
  have hl : lv_has ls 6 [(0, .ref o), (1, .int i0), (2, .int i1), (3, .int i2), (4, .ref qL)] := hl
  refine lv_aload hx hb dL_rest_0 (lv_at hl 4 rfl) ?_
  refine lv_iconst (v := 0) hx hb dL_rest_2 (by decide) ?_
  refine lv_aload_n hx hb dL_rest_3 rfl (lv_at hl 0 rfl) ?_
  refine lv_iload_n hx hb dL_rest_4 rfl (lv_at hl 1 rfl) ?_
  refine lv_iload_n hx hb dL_rest_5 rfl (lv_at hl 2 rfl) ?_
  refine lv_iload_n hx hb dL_rest_6 rfl (lv_at hl 3 rfl) ?_
  refine ny_x hS (va_free (wc := [(o, .inr (3, [.ref q1, .ref q2, .ref q3, .ref q4])), (q1, .inl (cI, 12, .inl hf)), (q2, .inl (cZ, 12, .inl bf))]) hD hS hA [0, 1, 2] rfl) (vx_runV (As := [.int i0, .int i1, .int i2]) (rest := [.int 0, .ref qL]) ⟨hx, hb, hml, hown, hts⟩ (c_X1_rest_no0 l D cI cZ o q1 q2 q3 q4 s.heap.size hf bf i0 i1 i2 (by assumption) (by assumption) (by assumption) (by assumption) (by assumption)) (cwV 3 hts gL_rest_X1_rest rfl rfl rfl (by decide +kernel) ⟨Nat.le_of_ble_eq_true rfl, Nat.le_of_ble_eq_true rfl⟩) ⟨ny_blind, va_recv hK hP (ci := 3) (q0 := 0) rfl rfl, fun U hU hW => ⟨rfl, ny_preU hE hP hK hD hS hA [0, 1, 2] rfl (by decide) rfl [0, 1] rfl U hU hW⟩⟩ rfl rfl hl.1 rfl (lv_room (Nat.le_of_ble_eq_true rfl)) dL_rest_7 ⟨Nat.le_of_ble_eq_true rfl, Nat.le_of_ble_eq_true rfl⟩) (fun ce q9 H locs hz9 hk9 hS hc9 hv9 hn9 => ?_)
  have hP : va_P D vwCl [(o, .inr (3, [.ref q1, .ref q2, .ref q3, .ref q4])), (q1, .inl (cI, 12, .inl hf)), (q2, .inl (cZ, 12, .inl bf)), (qL, .inl (cL, 1, .inr (.inl lf)))] H := ny_keep hP hk9
  refine vx_catch (own := RL) (name := ny_AE) (E := ny_AE) hown (tableOf [(0, 11, 14, 13)]) ⟨0, 11, 18, 39⟩ (tableOf []) (htab.trans rfl) (List.forall_mem_cons.mpr ⟨Or.inr ⟨(by decide), ny_IO, (hts (.classLink RL 13 "java/lang/IndexOutOfBoundsException") (List.mem_of_getElem? (i := 1) rfl)), (hE.2.2.2.2.2.1 _ (List.mem_of_getElem? (i := 0) rfl))⟩, (fun z hz => absurd hz List.not_mem_nil)⟩) (by decide) (by decide) (hts (.classLink RL 39 "java/lang/ArithmeticException") (List.mem_of_getElem? (i := 2) rfl)) (va_Nw.use rfl (hE.2.2.2.2.1 _ (List.mem_of_getElem? (i := 2) rfl))) hc9 hv9 hn9 ?_
  refine W.eq (g2 := F0 m 18 ls [.ref q9]) rfl ?_
  refine lv_astore (lv' := [(5, .ref q9), (0, .ref o), (1, .int i0), (2, .int i1), (3, .int i2), (4, .ref qL)]) hx hb dL_rest_18 hl (by decide) rfl (fun ls hl => ?_)
  refine lv_iconst (v := 2) hx hb dL_rest_20 (by decide) ?_
  have hP9 := hP.sub (ws' := [(o, .inr (3, [.ref q1, .ref q2, .ref q3, .ref q4])), (q1, .inl (cI, 12, .inl hf)), (q2, .inl (cZ, 12, .inl bf)), (qL, .inl (cL, 1, .inr (.inl lf)))]) [0, 1, 2, 3] rfl
  have hD9 := hD.sub (ws' := [(o, .inr (3, [.ref q1, .ref q2, .ref q3, .ref q4])), (q1, .inl (cI, 12, .inl hf)), (q2, .inl (cZ, 12, .inl bf)), (qL, .inl (cL, 1, .inr (.inl lf)))]) [0, 1, 2, 3] (by decide) rfl
  refine W.widen (k := 1) (n := 6) (Nat.le_of_ble_eq_true rfl) (Nat.le_of_ble_eq_true rfl) ?_
  exact W.iret (v := 2) hx hb hr (fun t ht hW => ⟨⟨2, (), rfl, (rfl), by rw [ht]; exact hP9, va_K.moved hW.alike hK, hD9⟩, hS.F ht⟩) hS.2.2 dL_rest_21
set_option maxHeartbeats 4000000 in
set_option maxRecDepth 100000 in
theorem c_L_restToo (l : Launch) (D : va_G) (cI : ClassId) (cZ : ClassId) (o : Nat) (q1 : Nat) (q2 : Nat) (q3 : Nat) (q4 : Nat) (sz : Nat) (hf : Nat → Int32) (bf : Nat → Int32) (i0 : Int32) (i1 : Int32) (i2 : Int32) (cL : ClassId) (qL : Nat) (lf : Nat → Int64) (gp0 : vp_in i0 12) (gp1 : vp_in i1 12) (gp2 : vp_in i2 12) (g0 : ¬ hf i2.toNatClampNeg = 0) (gH : ny_H hf) (gB : ny_BB bf) : Met l yL_restToo wsL_restToo ({ frames := 7, cells := 0, slots := 0, locals := 164 }) (va_Pc [.ref o, .int i0, .int i1, .int i2, .ref qL] (ny_pre D [(cI, .int), (cZ, .boolean), (cL, .long)] [(o, .inr (3, [.ref q1, .ref q2, .ref q3, .ref q4])), (q1, .inl (cI, 12, .inl hf)), (q2, .inl (cZ, 12, .inl bf)), (qL, .inl (cL, 1, .inr (.inl lf)))] sz)) (va_Qi (fun (r : Int32) (u : Unit) => r = 0) (fun (u : Unit) t => ny_at D [(cI, .int), (cZ, .boolean), (cL, .long)] (va_A [(o, .inr (3, [.ref q1, .ref q2, .ref q3, .ref q4])), (q1, .inl (cI, 12, .inl hf)), (q2, .inl (cZ, 12, .inl bf)), (qL, .inl (cL, 1, .inr (.inl lf)))] sz) [(o, .inr (3, [.ref q1, .ref q2, .ref q3, .ref q4])), (q1, .inl (cI, 12, .inl (upd hf i0.toNatClampNeg (f_re (hf i1.toNatClampNeg) (hf i2.toNatClampNeg))))), (q2, .inl (cZ, 12, .inl (upd bf i0.toNatClampNeg (f_z (f_re (hf i1.toNatClampNeg) (hf i2.toNatClampNeg)) (f_un (hf i1.toNatClampNeg) (bf i1.toNatClampNeg)))))), (qL, .inl (cL, 1, .inr (.inl (vp_updL lf (0 : Int32).toNatClampNeg (f_bt (f_re (hf i1.toNatClampNeg) (hf i2.toNatClampNeg)) (f_un (hf i1.toNatClampNeg) (bf i1.toNatClampNeg)))))))] t) (va_A [(o, .inr (3, [.ref q1, .ref q2, .ref q3, .ref q4])), (q1, .inl (cI, 12, .inl hf)), (q2, .inl (cZ, 12, .inl bf)), (qL, .inl (cL, 1, .inr (.inl lf)))] sz)) 0 0 (va_A [(o, .inr (3, [.ref q1, .ref q2, .ref q3, .ref q4])), (q1, .inl (cI, 12, .inl hf)), (q2, .inl (cZ, 12, .inl bf)), (qL, .inl (cL, 1, .inr (.inl lf)))] sz) := by
  refine va_MetW (cc := cL_restToo) (maxL := 6) (ret := (some .int)) (by decide) rfl ?_
  intro p e s m args below meth c s₁ B hml hv
  obtain ⟨rfl, hsz, hP, hK, hD0, hE⟩ := hv
  have hx := B.exec
  have hb := B.bytes
  have hr := B.returns
  have hts := atoms_spec (ws := wsL_restToo) B.pre
  have hown : s.vm.findClass RL = some m.cls := findClass_of_methodNamed B.named
  have hlocks := B.notSynchronized
  have htab := vx_table (x := yL_restToo) B (hts _ List.mem_cons_self)
  subst hsz
  have hD := hD0.self (sz := s.heap.size)
  generalize hAe : va_A [(o, .inr (3, [.ref q1, .ref q2, .ref q3, .ref q4])), (q1, .inl (cI, 12, .inl hf)), (q2, .inl (cZ, 12, .inl bf)), (qL, .inl (cL, 1, .inr (.inl lf)))] s.heap.size = A at hD hE ⊢
  have hA : ∀ q : Nat, s.heap.size ≤ q → A q := fun q h => by rw [← hAe]; exact Or.inr h
  have hS : va_S A s.heap s.heap [] := va_S.rf
  have hl := lv_entry ([.ref o, .int i0, .int i1, .int i2, .ref qL]) (n := 6) (Nat.le_of_ble_eq_true rfl)
  rw [lg_entry_eq]
  generalize (lg_sl ([.ref o, .int i0, .int i1, .int i2, .ref qL]) ++ List.replicate (6 - (lg_sl ([.ref o, .int i0, .int i1, .int i2, .ref qL])).length) Slot.unset).toArray = ls at hl ⊢
  have hl : lv_has ls 6 [(0, .ref o), (1, .int i0), (2, .int i1), (3, .int i2), (4, .ref qL)] := hl
  refine lv_aload hx hb dL_restToo_0 (lv_at hl 4 rfl) ?_
  refine lv_iconst (v := 0) hx hb dL_restToo_2 (by decide) ?_
  refine lv_aload_n hx hb dL_restToo_3 rfl (lv_at hl 0 rfl) ?_
  refine lv_iload_n hx hb dL_restToo_4 rfl (lv_at hl 1 rfl) ?_
  refine lv_iload_n hx hb dL_restToo_5 rfl (lv_at hl 2 rfl) ?_
  refine lv_iload_n hx hb dL_restToo_6 rfl (lv_at hl 3 rfl) ?_
  refine ny_l (wc := [(o, .inr (3, [.ref q1, .ref q2, .ref q3, .ref q4])), (q1, .inl (cI, 12, .inl hf)), (q2, .inl (cZ, 12, .inl bf))]) (wr := [(qL, .inl (cL, 1, .inr (.inl lf)))]) hP hD hS hA [0, 1, 2] [3] rfl rfl (by decide) (by decide) (va_runV (As := [.int i0, .int i1, .int i2]) (rest := [.int 0, .ref qL]) ⟨hx, hb, hml, hown, hts⟩ (c_X1_restToo l D cI cZ o q1 q2 q3 q4 s.heap.size hf bf i0 i1 i2 (by assumption) (by assumption) (by assumption) (by assumption) (by assumption) (by assumption)) (cwV 3 hts gL_restToo_X1_restToo rfl rfl rfl (by decide +kernel) ⟨Nat.le_of_ble_eq_true rfl, Nat.le_of_ble_eq_true rfl⟩) ⟨ny_blind, va_recv hK hP (ci := 3) (q0 := 0) rfl rfl, fun U hU hW => ⟨rfl, ny_preU hE hP hK hD hS hA [0, 1, 2] rfl (by decide) rfl [0, 1] rfl U hU hW⟩⟩ rfl rfl hl.1 rfl (lv_room (Nat.le_of_ble_eq_true rfl)) dL_restToo_7 ⟨Nat.le_of_ble_eq_true rfl, Nat.le_of_ble_eq_true rfl⟩) (fun r_7 u H locs hw_7 hP hD hS => ?_)
  have hP : va_P D vwCl [(qL, .inl (cL, 1, .inr (.inl lf))), (o, .inr (3, [.ref q1, .ref q2, .ref q3, .ref q4])), (q1, .inl (cI, 12, .inl (upd hf i0.toNatClampNeg (f_re (hf i1.toNatClampNeg) (hf i2.toNatClampNeg))))), (q2, .inl (cZ, 12, .inl (upd bf i0.toNatClampNeg (f_z (f_re (hf i1.toNatClampNeg) (hf i2.toNatClampNeg)) (f_un (hf i1.toNatClampNeg) (bf i1.toNatClampNeg))))))] H := hP
  have hD : va_D A [(qL, .inl (cL, 1, .inr (.inl lf))), (o, .inr (3, [.ref q1, .ref q2, .ref q3, .ref q4])), (q1, .inl (cI, 12, .inl (upd hf i0.toNatClampNeg (f_re (hf i1.toNatClampNeg) (hf i2.toNatClampNeg))))), (q2, .inl (cZ, 12, .inl (upd bf i0.toNatClampNeg (f_z (f_re (hf i1.toNatClampNeg) (hf i2.toNatClampNeg)) (f_un (hf i1.toNatClampNeg) (bf i1.toNatClampNeg))))))] := hD
  have hw_7 : r_7 = f_bt (f_re (hf i1.toNatClampNeg) (hf i2.toNatClampNeg)) (f_un (hf i1.toNatClampNeg) (bf i1.toNatClampNeg)) := hw_7
  subst hw_7
  refine va_last hx hb hK hP hD hS 0 2 rfl rfl (vp_in_iff.mpr (by decide)) dL_restToo_10 (fun H locs hP hD hS => ?_)
  have hP : va_P D vwCl [(qL, .inl (cL, 1, .inr (.inl (vp_updL lf (0 : Int32).toNatClampNeg (f_bt (f_re (hf i1.toNatClampNeg) (hf i2.toNatClampNeg)) (f_un (hf i1.toNatClampNeg) (bf i1.toNatClampNeg))))))), (o, .inr (3, [.ref q1, .ref q2, .ref q3, .ref q4])), (q1, .inl (cI, 12, .inl (upd hf i0.toNatClampNeg (f_re (hf i1.toNatClampNeg) (hf i2.toNatClampNeg))))), (q2, .inl (cZ, 12, .inl (upd bf i0.toNatClampNeg (f_z (f_re (hf i1.toNatClampNeg) (hf i2.toNatClampNeg)) (f_un (hf i1.toNatClampNeg) (bf i1.toNatClampNeg))))))] H := hP
  have hD : va_D A [(qL, .inl (cL, 1, .inr (.inl (vp_updL lf (0 : Int32).toNatClampNeg (f_bt (f_re (hf i1.toNatClampNeg) (hf i2.toNatClampNeg)) (f_un (hf i1.toNatClampNeg) (bf i1.toNatClampNeg))))))), (o, .inr (3, [.ref q1, .ref q2, .ref q3, .ref q4])), (q1, .inl (cI, 12, .inl (upd hf i0.toNatClampNeg (f_re (hf i1.toNatClampNeg) (hf i2.toNatClampNeg))))), (q2, .inl (cZ, 12, .inl (upd bf i0.toNatClampNeg (f_z (f_re (hf i1.toNatClampNeg) (hf i2.toNatClampNeg)) (f_un (hf i1.toNatClampNeg) (bf i1.toNatClampNeg))))))] := hD
  refine lv_goto (tgt := 22) hx hb dL_restToo_11 (by decide) ?_
  refine lv_iconst (v := 0) hx hb dL_restToo_22 (by decide) ?_
  have hP9 := hP.sub (ws' := [(o, .inr (3, [.ref q1, .ref q2, .ref q3, .ref q4])), (q1, .inl (cI, 12, .inl (upd hf i0.toNatClampNeg (f_re (hf i1.toNatClampNeg) (hf i2.toNatClampNeg))))), (q2, .inl (cZ, 12, .inl (upd bf i0.toNatClampNeg (f_z (f_re (hf i1.toNatClampNeg) (hf i2.toNatClampNeg)) (f_un (hf i1.toNatClampNeg) (bf i1.toNatClampNeg)))))), (qL, .inl (cL, 1, .inr (.inl (vp_updL lf (0 : Int32).toNatClampNeg (f_bt (f_re (hf i1.toNatClampNeg) (hf i2.toNatClampNeg)) (f_un (hf i1.toNatClampNeg) (bf i1.toNatClampNeg)))))))]) [1, 2, 3, 0] rfl
  have hD9 := hD.sub (ws' := [(o, .inr (3, [.ref q1, .ref q2, .ref q3, .ref q4])), (q1, .inl (cI, 12, .inl (upd hf i0.toNatClampNeg (f_re (hf i1.toNatClampNeg) (hf i2.toNatClampNeg))))), (q2, .inl (cZ, 12, .inl (upd bf i0.toNatClampNeg (f_z (f_re (hf i1.toNatClampNeg) (hf i2.toNatClampNeg)) (f_un (hf i1.toNatClampNeg) (bf i1.toNatClampNeg)))))), (qL, .inl (cL, 1, .inr (.inl (vp_updL lf (0 : Int32).toNatClampNeg (f_bt (f_re (hf i1.toNatClampNeg) (hf i2.toNatClampNeg)) (f_un (hf i1.toNatClampNeg) (bf i1.toNatClampNeg)))))))]) [1, 2, 3, 0] (by decide) rfl
  exact W.iret (v := 0) hx hb hr (fun t ht hW => ⟨⟨0, (), rfl, (rfl), by rw [ht]; exact hP9, va_K.moved hW.alike hK, hD9⟩, hS.F ht⟩) hS.2.2 dL_restToo_23
set_option maxHeartbeats 4000000 in
set_option maxRecDepth 100000 in
theorem c_L_restToo_noP (l : Launch) (D : va_G) (cI : ClassId) (cZ : ClassId) (o : Nat) (q1 : Nat) (q2 : Nat) (q3 : Nat) (q4 : Nat) (sz : Nat) (hf : Nat → Int32) (bf : Nat → Int32) (i0 : Int32) (i1 : Int32) (i2 : Int32) (cL : ClassId) (qL : Nat) (lf : Nat → Int64) (gl : l.stackTraces = false) (gb : ¬ vp_in i0 12 ∨ (¬ vp_in i1 12 ∨ ¬ vp_in i2 12)) : Met l yL_restToo wsL_restToo ({ frames := 10, cells := 1, slots := 6, locals := 178 }) (va_Pc [.ref o, .int i0, .int i1, .int i2, .ref qL] (ny_pre D [(cI, .int), (cZ, .boolean), (cL, .long)] [(o, .inr (3, [.ref q1, .ref q2, .ref q3, .ref q4])), (q1, .inl (cI, 12, .inl hf)), (q2, .inl (cZ, 12, .inl bf)), (qL, .inl (cL, 1, .inr (.inl lf)))] sz)) (va_Qi (fun (r : Int32) (u : Unit) => r = 1) (fun (u : Unit) t => ny_at D [(cI, .int), (cZ, .boolean), (cL, .long)] (va_A [(o, .inr (3, [.ref q1, .ref q2, .ref q3, .ref q4])), (q1, .inl (cI, 12, .inl hf)), (q2, .inl (cZ, 12, .inl bf)), (qL, .inl (cL, 1, .inr (.inl lf)))] sz) [(o, .inr (3, [.ref q1, .ref q2, .ref q3, .ref q4])), (q1, .inl (cI, 12, .inl hf)), (q2, .inl (cZ, 12, .inl bf)), (qL, .inl (cL, 1, .inr (.inl lf)))] t) (va_A [(o, .inr (3, [.ref q1, .ref q2, .ref q3, .ref q4])), (q1, .inl (cI, 12, .inl hf)), (q2, .inl (cZ, 12, .inl bf)), (qL, .inl (cL, 1, .inr (.inl lf)))] sz)) 1 6 (va_A [(o, .inr (3, [.ref q1, .ref q2, .ref q3, .ref q4])), (q1, .inl (cI, 12, .inl hf)), (q2, .inl (cZ, 12, .inl bf)), (qL, .inl (cL, 1, .inr (.inl lf)))] sz) := by
  refine va_MetW (cc := cL_restToo) (maxL := 6) (ret := (some .int)) (by decide) rfl ?_
  intro p e s m args below meth c s₁ B hml hv
  obtain ⟨rfl, hsz, hP, hK, hD0, hE⟩ := hv
  have hx := B.exec
  have hb := B.bytes
  have hr := B.returns
  have hts := atoms_spec (ws := wsL_restToo) B.pre
  have hown : s.vm.findClass RL = some m.cls := findClass_of_methodNamed B.named
  have hlocks := B.notSynchronized
  have htab := vx_table (x := yL_restToo) B (hts _ List.mem_cons_self)
  subst hsz
  have hD := hD0.self (sz := s.heap.size)
  generalize hAe : va_A [(o, .inr (3, [.ref q1, .ref q2, .ref q3, .ref q4])), (q1, .inl (cI, 12, .inl hf)), (q2, .inl (cZ, 12, .inl bf)), (qL, .inl (cL, 1, .inr (.inl lf)))] s.heap.size = A at hD hE ⊢
  have hA : ∀ q : Nat, s.heap.size ≤ q → A q := fun q h => by rw [← hAe]; exact Or.inr h
  have hS : va_S A s.heap s.heap [] := va_S.rf
  have hl := lv_entry ([.ref o, .int i0, .int i1, .int i2, .ref qL]) (n := 6) (Nat.le_of_ble_eq_true rfl)
  rw [lg_entry_eq]
  generalize (lg_sl ([.ref o, .int i0, .int i1, .int i2, .ref qL]) ++ List.replicate (6 - (lg_sl ([.ref o, .int i0, .int i1, .int i2, .ref qL])).length) Slot.unset).toArray = ls at hl ⊢
  have hl : lv_has ls 6 [(0, .ref o), (1, .int i0), (2, .int i1), (3, .int i2), (4, .ref qL)] := hl
  refine lv_aload hx hb dL_restToo_0 (lv_at hl 4 rfl) ?_
  refine lv_iconst (v := 0) hx hb dL_restToo_2 (by decide) ?_
  refine lv_aload_n hx hb dL_restToo_3 rfl (lv_at hl 0 rfl) ?_
  refine lv_iload_n hx hb dL_restToo_4 rfl (lv_at hl 1 rfl) ?_
  refine lv_iload_n hx hb dL_restToo_5 rfl (lv_at hl 2 rfl) ?_
  refine lv_iload_n hx hb dL_restToo_6 rfl (lv_at hl 3 rfl) ?_
  refine ny_x hS (va_free (wc := [(o, .inr (3, [.ref q1, .ref q2, .ref q3, .ref q4])), (q1, .inl (cI, 12, .inl hf)), (q2, .inl (cZ, 12, .inl bf))]) hD hS hA [0, 1, 2] rfl) (vx_runV (As := [.int i0, .int i1, .int i2]) (rest := [.int 0, .ref qL]) ⟨hx, hb, hml, hown, hts⟩ (c_X1_restToo_noP l D cI cZ o q1 q2 q3 q4 s.heap.size hf bf i0 i1 i2 (by assumption) (by assumption)) (cwV 3 hts gL_restToo_X1_restToo rfl rfl rfl (by decide +kernel) ⟨Nat.le_of_ble_eq_true rfl, Nat.le_of_ble_eq_true rfl⟩) ⟨ny_blind, va_recv hK hP (ci := 3) (q0 := 0) rfl rfl, fun U hU hW => ⟨rfl, ny_preU hE hP hK hD hS hA [0, 1, 2] rfl (by decide) rfl [0, 1] rfl U hU hW⟩⟩ rfl rfl hl.1 rfl (lv_room (Nat.le_of_ble_eq_true rfl)) dL_restToo_7 ⟨Nat.le_of_ble_eq_true rfl, Nat.le_of_ble_eq_true rfl⟩) (fun ce q9 H locs hz9 hk9 hS hc9 hv9 hn9 => ?_)
  have hP : va_P D vwCl [(o, .inr (3, [.ref q1, .ref q2, .ref q3, .ref q4])), (q1, .inl (cI, 12, .inl hf)), (q2, .inl (cZ, 12, .inl bf)), (qL, .inl (cL, 1, .inr (.inl lf)))] H := ny_keep hP hk9
  refine vx_catch (own := RL) (name := ny_IO) (E := ny_IO) hown (tableOf []) ⟨0, 11, 14, 13⟩ (tableOf [(0, 11, 18, 39)]) (htab.trans rfl) (fun z hz => absurd hz List.not_mem_nil) (by decide) (by decide) (hts (.classLink RL 13 "java/lang/IndexOutOfBoundsException") (List.mem_of_getElem? (i := 1) rfl)) (va_Nw.use rfl (hE.2.2.2.2.1 _ (List.mem_of_getElem? (i := 0) rfl))) hc9 hv9 hn9 ?_
  refine W.eq (g2 := F0 m 14 ls [.ref q9]) rfl ?_
  refine lv_astore (lv' := [(5, .ref q9), (0, .ref o), (1, .int i0), (2, .int i1), (3, .int i2), (4, .ref qL)]) hx hb dL_restToo_14 hl (by decide) rfl (fun ls hl => ?_)
  refine lv_iconst (v := 1) hx hb dL_restToo_16 (by decide) ?_
  have hP9 := hP.sub (ws' := [(o, .inr (3, [.ref q1, .ref q2, .ref q3, .ref q4])), (q1, .inl (cI, 12, .inl hf)), (q2, .inl (cZ, 12, .inl bf)), (qL, .inl (cL, 1, .inr (.inl lf)))]) [0, 1, 2, 3] rfl
  have hD9 := hD.sub (ws' := [(o, .inr (3, [.ref q1, .ref q2, .ref q3, .ref q4])), (q1, .inl (cI, 12, .inl hf)), (q2, .inl (cZ, 12, .inl bf)), (qL, .inl (cL, 1, .inr (.inl lf)))]) [0, 1, 2, 3] (by decide) rfl
  refine W.widen (k := 1) (n := 6) (Nat.le_of_ble_eq_true rfl) (Nat.le_of_ble_eq_true rfl) ?_
  exact W.iret (v := 1) hx hb hr (fun t ht hW => ⟨⟨1, (), rfl, (rfl), by rw [ht]; exact hP9, va_K.moved hW.alike hK, hD9⟩, hS.F ht⟩) hS.2.2 dL_restToo_17
set_option maxHeartbeats 4000000 in
set_option maxRecDepth 100000 in
theorem c_L_restToo_no0 (l : Launch) (D : va_G) (cI : ClassId) (cZ : ClassId) (o : Nat) (q1 : Nat) (q2 : Nat) (q3 : Nat) (q4 : Nat) (sz : Nat) (hf : Nat → Int32) (bf : Nat → Int32) (i0 : Int32) (i1 : Int32) (i2 : Int32) (cL : ClassId) (qL : Nat) (lf : Nat → Int64) (gl : l.stackTraces = false) (gp0 : vp_in i0 12) (gp1 : vp_in i1 12) (gp2 : vp_in i2 12) (g0 : hf i2.toNatClampNeg = 0) : Met l yL_restToo wsL_restToo ({ frames := 9, cells := 1, slots := 6, locals := 158 }) (va_Pc [.ref o, .int i0, .int i1, .int i2, .ref qL] (ny_pre D [(cI, .int), (cZ, .boolean), (cL, .long)] [(o, .inr (3, [.ref q1, .ref q2, .ref q3, .ref q4])), (q1, .inl (cI, 12, .inl hf)), (q2, .inl (cZ, 12, .inl bf)), (qL, .inl (cL, 1, .inr (.inl lf)))] sz)) (va_Qi (fun (r : Int32) (u : Unit) => r = 2) (fun (u : Unit) t => ny_at D [(cI, .int), (cZ, .boolean), (cL, .long)] (va_A [(o, .inr (3, [.ref q1, .ref q2, .ref q3, .ref q4])), (q1, .inl (cI, 12, .inl hf)), (q2, .inl (cZ, 12, .inl bf)), (qL, .inl (cL, 1, .inr (.inl lf)))] sz) [(o, .inr (3, [.ref q1, .ref q2, .ref q3, .ref q4])), (q1, .inl (cI, 12, .inl hf)), (q2, .inl (cZ, 12, .inl bf)), (qL, .inl (cL, 1, .inr (.inl lf)))] t) (va_A [(o, .inr (3, [.ref q1, .ref q2, .ref q3, .ref q4])), (q1, .inl (cI, 12, .inl hf)), (q2, .inl (cZ, 12, .inl bf)), (qL, .inl (cL, 1, .inr (.inl lf)))] sz)) 1 6 (va_A [(o, .inr (3, [.ref q1, .ref q2, .ref q3, .ref q4])), (q1, .inl (cI, 12, .inl hf)), (q2, .inl (cZ, 12, .inl bf)), (qL, .inl (cL, 1, .inr (.inl lf)))] sz) := by
  refine va_MetW (cc := cL_restToo) (maxL := 6) (ret := (some .int)) (by decide) rfl ?_
  intro p e s m args below meth c s₁ B hml hv
  obtain ⟨rfl, hsz, hP, hK, hD0, hE⟩ := hv
  have hx := B.exec
  have hb := B.bytes
  have hr := B.returns
  have hts := atoms_spec (ws := wsL_restToo) B.pre
  have hown : s.vm.findClass RL = some m.cls := findClass_of_methodNamed B.named
  have hlocks := B.notSynchronized
  have htab := vx_table (x := yL_restToo) B (hts _ List.mem_cons_self)
  subst hsz
  have hD := hD0.self (sz := s.heap.size)
  generalize hAe : va_A [(o, .inr (3, [.ref q1, .ref q2, .ref q3, .ref q4])), (q1, .inl (cI, 12, .inl hf)), (q2, .inl (cZ, 12, .inl bf)), (qL, .inl (cL, 1, .inr (.inl lf)))] s.heap.size = A at hD hE ⊢
  have hA : ∀ q : Nat, s.heap.size ≤ q → A q := fun q h => by rw [← hAe]; exact Or.inr h
  have hS : va_S A s.heap s.heap [] := va_S.rf
  have hl := lv_entry ([.ref o, .int i0, .int i1, .int i2, .ref qL]) (n := 6) (Nat.le_of_ble_eq_true rfl)
  rw [lg_entry_eq]
  generalize (lg_sl ([.ref o, .int i0, .int i1, .int i2, .ref qL]) ++ List.replicate (6 - (lg_sl ([.ref o, .int i0, .int i1, .int i2, .ref qL])).length) Slot.unset).toArray = ls at hl ⊢
  have hl : lv_has ls 6 [(0, .ref o), (1, .int i0), (2, .int i1), (3, .int i2), (4, .ref qL)] := hl
  refine lv_aload hx hb dL_restToo_0 (lv_at hl 4 rfl) ?_
  refine lv_iconst (v := 0) hx hb dL_restToo_2 (by decide) ?_
  refine lv_aload_n hx hb dL_restToo_3 rfl (lv_at hl 0 rfl) ?_
  refine lv_iload_n hx hb dL_restToo_4 rfl (lv_at hl 1 rfl) ?_
  refine lv_iload_n hx hb dL_restToo_5 rfl (lv_at hl 2 rfl) ?_
  refine lv_iload_n hx hb dL_restToo_6 rfl (lv_at hl 3 rfl) ?_
  refine ny_x hS (va_free (wc := [(o, .inr (3, [.ref q1, .ref q2, .ref q3, .ref q4])), (q1, .inl (cI, 12, .inl hf)), (q2, .inl (cZ, 12, .inl bf))]) hD hS hA [0, 1, 2] rfl) (vx_runV (As := [.int i0, .int i1, .int i2]) (rest := [.int 0, .ref qL]) ⟨hx, hb, hml, hown, hts⟩ (c_X1_restToo_no0 l D cI cZ o q1 q2 q3 q4 s.heap.size hf bf i0 i1 i2 (by assumption) (by assumption) (by assumption) (by assumption) (by assumption)) (cwV 3 hts gL_restToo_X1_restToo rfl rfl rfl (by decide +kernel) ⟨Nat.le_of_ble_eq_true rfl, Nat.le_of_ble_eq_true rfl⟩) ⟨ny_blind, va_recv hK hP (ci := 3) (q0 := 0) rfl rfl, fun U hU hW => ⟨rfl, ny_preU hE hP hK hD hS hA [0, 1, 2] rfl (by decide) rfl [0, 1] rfl U hU hW⟩⟩ rfl rfl hl.1 rfl (lv_room (Nat.le_of_ble_eq_true rfl)) dL_restToo_7 ⟨Nat.le_of_ble_eq_true rfl, Nat.le_of_ble_eq_true rfl⟩) (fun ce q9 H locs hz9 hk9 hS hc9 hv9 hn9 => ?_)
  have hP : va_P D vwCl [(o, .inr (3, [.ref q1, .ref q2, .ref q3, .ref q4])), (q1, .inl (cI, 12, .inl hf)), (q2, .inl (cZ, 12, .inl bf)), (qL, .inl (cL, 1, .inr (.inl lf)))] H := ny_keep hP hk9
  refine vx_catch (own := RL) (name := ny_AE) (E := ny_AE) hown (tableOf [(0, 11, 14, 13)]) ⟨0, 11, 18, 39⟩ (tableOf []) (htab.trans rfl) (List.forall_mem_cons.mpr ⟨Or.inr ⟨(by decide), ny_IO, (hts (.classLink RL 13 "java/lang/IndexOutOfBoundsException") (List.mem_of_getElem? (i := 1) rfl)), (hE.2.2.2.2.2.1 _ (List.mem_of_getElem? (i := 0) rfl))⟩, (fun z hz => absurd hz List.not_mem_nil)⟩) (by decide) (by decide) (hts (.classLink RL 39 "java/lang/ArithmeticException") (List.mem_of_getElem? (i := 2) rfl)) (va_Nw.use rfl (hE.2.2.2.2.1 _ (List.mem_of_getElem? (i := 2) rfl))) hc9 hv9 hn9 ?_
  refine W.eq (g2 := F0 m 18 ls [.ref q9]) rfl ?_
  refine lv_astore (lv' := [(5, .ref q9), (0, .ref o), (1, .int i0), (2, .int i1), (3, .int i2), (4, .ref qL)]) hx hb dL_restToo_18 hl (by decide) rfl (fun ls hl => ?_)
  refine lv_iconst (v := 2) hx hb dL_restToo_20 (by decide) ?_
  have hP9 := hP.sub (ws' := [(o, .inr (3, [.ref q1, .ref q2, .ref q3, .ref q4])), (q1, .inl (cI, 12, .inl hf)), (q2, .inl (cZ, 12, .inl bf)), (qL, .inl (cL, 1, .inr (.inl lf)))]) [0, 1, 2, 3] rfl
  have hD9 := hD.sub (ws' := [(o, .inr (3, [.ref q1, .ref q2, .ref q3, .ref q4])), (q1, .inl (cI, 12, .inl hf)), (q2, .inl (cZ, 12, .inl bf)), (qL, .inl (cL, 1, .inr (.inl lf)))]) [0, 1, 2, 3] (by decide) rfl
  refine W.widen (k := 1) (n := 6) (Nat.le_of_ble_eq_true rfl) (Nat.le_of_ble_eq_true rfl) ?_
  exact W.iret (v := 2) hx hb hr (fun t ht hW => ⟨⟨2, (), rfl, (rfl), by rw [ht]; exact hP9, va_K.moved hW.alike hK, hD9⟩, hS.F ht⟩) hS.2.2 dL_restToo_21
set_option maxHeartbeats 4000000 in
set_option maxRecDepth 100000 in
theorem c_L_times (l : Launch) (D : va_G) (cI : ClassId) (cZ : ClassId) (o : Nat) (q1 : Nat) (q2 : Nat) (q3 : Nat) (q4 : Nat) (sz : Nat) (hf : Nat → Int32) (bf : Nat → Int32) (i0 : Int32) (i1 : Int32) (cL : ClassId) (qL : Nat) (lf : Nat → Int64) (gp0 : vp_in i0 12) (gp1 : vp_in i1 12) (g0 : ¬ hf i1.toNatClampNeg = 0) (gH : ny_H hf) : Met l yL_times wsL_times ({ frames := 3, cells := 0, slots := 0, locals := 70 }) (va_Pc [.ref o, .int i0, .int i1, .ref qL] (ny_pre D [(cI, .int), (cZ, .boolean), (cL, .long)] [(o, .inr (3, [.ref q1, .ref q2, .ref q3, .ref q4])), (q1, .inl (cI, 12, .inl hf)), (q2, .inl (cZ, 12, .inl bf)), (qL, .inl (cL, 1, .inr (.inl lf)))] sz)) (va_Qi (fun (r : Int32) (u : Unit) => r = 0) (fun (u : Unit) t => ny_at D [(cI, .int), (cZ, .boolean), (cL, .long)] (va_A [(o, .inr (3, [.ref q1, .ref q2, .ref q3, .ref q4])), (q1, .inl (cI, 12, .inl hf)), (q2, .inl (cZ, 12, .inl bf)), (qL, .inl (cL, 1, .inr (.inl lf)))] sz) [(o, .inr (3, [.ref q1, .ref q2, .ref q3, .ref q4])), (q1, .inl (cI, 12, .inl hf)), (q2, .inl (cZ, 12, .inl bf)), (qL, .inl (cL, 1, .inr (.inl (vp_updL lf (0 : Int32).toNatClampNeg ((f_nr (hf i0.toNatClampNeg) (hf i1.toNatClampNeg)).toInt64)))))] t) (va_A [(o, .inr (3, [.ref q1, .ref q2, .ref q3, .ref q4])), (q1, .inl (cI, 12, .inl hf)), (q2, .inl (cZ, 12, .inl bf)), (qL, .inl (cL, 1, .inr (.inl lf)))] sz)) 0 0 (va_A [(o, .inr (3, [.ref q1, .ref q2, .ref q3, .ref q4])), (q1, .inl (cI, 12, .inl hf)), (q2, .inl (cZ, 12, .inl bf)), (qL, .inl (cL, 1, .inr (.inl lf)))] sz) := by
  refine va_MetW (cc := cL_times) (maxL := 5) (ret := (some .int)) (by decide) rfl ?_
  intro p e s m args below meth c s₁ B hml hv
  obtain ⟨rfl, hsz, hP, hK, hD0, hE⟩ := hv
  have hx := B.exec
  have hb := B.bytes
  have hr := B.returns
  have hts := atoms_spec (ws := wsL_times) B.pre
  have hown : s.vm.findClass RL = some m.cls := findClass_of_methodNamed B.named
  have hlocks := B.notSynchronized
  have htab := vx_table (x := yL_times) B (hts _ List.mem_cons_self)
  subst hsz
  have hD := hD0.self (sz := s.heap.size)
  generalize hAe : va_A [(o, .inr (3, [.ref q1, .ref q2, .ref q3, .ref q4])), (q1, .inl (cI, 12, .inl hf)), (q2, .inl (cZ, 12, .inl bf)), (qL, .inl (cL, 1, .inr (.inl lf)))] s.heap.size = A at hD hE ⊢
  have hA : ∀ q : Nat, s.heap.size ≤ q → A q := fun q h => by rw [← hAe]; exact Or.inr h
  have hS : va_S A s.heap s.heap [] := va_S.rf
  have hl := lv_entry ([.ref o, .int i0, .int i1, .ref qL]) (n := 5) (Nat.le_of_ble_eq_true rfl)
  rw [lg_entry_eq]
  generalize (lg_sl ([.ref o, .int i0, .int i1, .ref qL]) ++ List.replicate (5 - (lg_sl ([.ref o, .int i0, .int i1, .ref qL])).length) Slot.unset).toArray = ls at hl ⊢
  have hl : lv_has ls 5 [(0, .ref o), (1, .int i0), (2, .int i1), (3, .ref qL)] := hl
  refine lv_aload_n hx hb dL_times_0 rfl (lv_at hl 3 rfl) ?_
  refine lv_iconst (v := 0) hx hb dL_times_1 (by decide) ?_
  refine lv_aload_n hx hb dL_times_2 rfl (lv_at hl 0 rfl) ?_
  refine lv_iload_n hx hb dL_times_3 rfl (lv_at hl 1 rfl) ?_
  refine lv_iload_n hx hb dL_times_4 rfl (lv_at hl 2 rfl) ?_
  refine vp_callSi (va_Run.run (va_runV (As := [.int i0, .int i1]) (rest := [.int 0, .ref qL]) ⟨hx, hb, hml, hown, hts⟩ (c_X1_times l D cI cZ o q1 q2 q3 q4 s.heap.size hf bf i0 i1 (by assumption) (by assumption) (by assumption) (by assumption)) (cwV 2 hts gL_times_X1_times rfl rfl rfl (by decide +kernel) ⟨Nat.le_of_ble_eq_true rfl, Nat.le_of_ble_eq_true rfl⟩) ⟨ny_blind, va_recv hK hP (ci := 3) (q0 := 0) rfl rfl, fun U hU hW => ⟨rfl, ny_preU hE hP hK hD hS hA [0, 1, 2] rfl (by decide) rfl [0, 1] rfl U hU hW⟩⟩ rfl rfl hl.1 rfl (lv_room (Nat.le_of_ble_eq_true rfl)) dL_times_5 ⟨Nat.le_of_ble_eq_true rfl, Nat.le_of_ble_eq_true rfl⟩)) (fun r_5 hw_5 => ?_)
  have hw_5 : r_5 = f_nr (hf i0.toNatClampNeg) (hf i1.toNatClampNeg) := hw_5
  subst hw_5
  refine lv_i2l hx hb dL_times_8 rfl ?_
  refine va_last hx hb hK hP hD hS 3 2 rfl rfl (vp_in_iff.mpr (by decide)) dL_times_9 (fun H locs hP hD hS => ?_)
  have hP : va_P D vwCl [(o, .inr (3, [.ref q1, .ref q2, .ref q3, .ref q4])), (q1, .inl (cI, 12, .inl hf)), (q2, .inl (cZ, 12, .inl bf)), (qL, .inl (cL, 1, .inr (.inl (vp_updL lf (0 : Int32).toNatClampNeg ((f_nr (hf i0.toNatClampNeg) (hf i1.toNatClampNeg)).toInt64)))))] H := hP
  have hD : va_D A [(o, .inr (3, [.ref q1, .ref q2, .ref q3, .ref q4])), (q1, .inl (cI, 12, .inl hf)), (q2, .inl (cZ, 12, .inl bf)), (qL, .inl (cL, 1, .inr (.inl (vp_updL lf (0 : Int32).toNatClampNeg ((f_nr (hf i0.toNatClampNeg) (hf i1.toNatClampNeg)).toInt64)))))] := hD
  refine lv_goto (tgt := 21) hx hb dL_times_10 (by decide) ?_
  refine lv_iconst (v := 0) hx hb dL_times_21 (by decide) ?_
  have hP9 := hP.sub (ws' := [(o, .inr (3, [.ref q1, .ref q2, .ref q3, .ref q4])), (q1, .inl (cI, 12, .inl hf)), (q2, .inl (cZ, 12, .inl bf)), (qL, .inl (cL, 1, .inr (.inl (vp_updL lf (0 : Int32).toNatClampNeg ((f_nr (hf i0.toNatClampNeg) (hf i1.toNatClampNeg)).toInt64)))))]) [0, 1, 2, 3] rfl
  have hD9 := hD.sub (ws' := [(o, .inr (3, [.ref q1, .ref q2, .ref q3, .ref q4])), (q1, .inl (cI, 12, .inl hf)), (q2, .inl (cZ, 12, .inl bf)), (qL, .inl (cL, 1, .inr (.inl (vp_updL lf (0 : Int32).toNatClampNeg ((f_nr (hf i0.toNatClampNeg) (hf i1.toNatClampNeg)).toInt64)))))]) [0, 1, 2, 3] (by decide) rfl
  exact W.iret (v := 0) hx hb hr (fun t ht hW => ⟨⟨0, (), rfl, (rfl), by rw [ht]; exact hP9, va_K.moved hW.alike hK, hD9⟩, hS.F ht⟩) hS.2.2 dL_times_22
set_option maxHeartbeats 4000000 in
set_option maxRecDepth 100000 in
theorem c_L_times_noP (l : Launch) (D : va_G) (cI : ClassId) (cZ : ClassId) (o : Nat) (q1 : Nat) (q2 : Nat) (q3 : Nat) (q4 : Nat) (sz : Nat) (hf : Nat → Int32) (bf : Nat → Int32) (i0 : Int32) (i1 : Int32) (cL : ClassId) (qL : Nat) (lf : Nat → Int64) (gl : l.stackTraces = false) (gb : ¬ vp_in i0 12 ∨ ¬ vp_in i1 12) : Met l yL_times wsL_times ({ frames := 9, cells := 1, slots := 6, locals := 154 }) (va_Pc [.ref o, .int i0, .int i1, .ref qL] (ny_pre D [(cI, .int), (cZ, .boolean), (cL, .long)] [(o, .inr (3, [.ref q1, .ref q2, .ref q3, .ref q4])), (q1, .inl (cI, 12, .inl hf)), (q2, .inl (cZ, 12, .inl bf)), (qL, .inl (cL, 1, .inr (.inl lf)))] sz)) (va_Qi (fun (r : Int32) (u : Unit) => r = 1) (fun (u : Unit) t => ny_at D [(cI, .int), (cZ, .boolean), (cL, .long)] (va_A [(o, .inr (3, [.ref q1, .ref q2, .ref q3, .ref q4])), (q1, .inl (cI, 12, .inl hf)), (q2, .inl (cZ, 12, .inl bf)), (qL, .inl (cL, 1, .inr (.inl lf)))] sz) [(o, .inr (3, [.ref q1, .ref q2, .ref q3, .ref q4])), (q1, .inl (cI, 12, .inl hf)), (q2, .inl (cZ, 12, .inl bf)), (qL, .inl (cL, 1, .inr (.inl lf)))] t) (va_A [(o, .inr (3, [.ref q1, .ref q2, .ref q3, .ref q4])), (q1, .inl (cI, 12, .inl hf)), (q2, .inl (cZ, 12, .inl bf)), (qL, .inl (cL, 1, .inr (.inl lf)))] sz)) 1 6 (va_A [(o, .inr (3, [.ref q1, .ref q2, .ref q3, .ref q4])), (q1, .inl (cI, 12, .inl hf)), (q2, .inl (cZ, 12, .inl bf)), (qL, .inl (cL, 1, .inr (.inl lf)))] sz) := by
  refine va_MetW (cc := cL_times) (maxL := 5) (ret := (some .int)) (by decide) rfl ?_
  intro p e s m args below meth c s₁ B hml hv
  obtain ⟨rfl, hsz, hP, hK, hD0, hE⟩ := hv
  have hx := B.exec
  have hb := B.bytes
  have hr := B.returns
  have hts := atoms_spec (ws := wsL_times) B.pre
  have hown : s.vm.findClass RL = some m.cls := findClass_of_methodNamed B.named
  have hlocks := B.notSynchronized
  have htab := vx_table (x := yL_times) B (hts _ List.mem_cons_self)
  subst hsz
  have hD := hD0.self (sz := s.heap.size)
  generalize hAe : va_A [(o, .inr (3, [.ref q1, .ref q2, .ref q3, .ref q4])), (q1, .inl (cI, 12, .inl hf)), (q2, .inl (cZ, 12, .inl bf)), (qL, .inl (cL, 1, .inr (.inl lf)))] s.heap.size = A at hD hE ⊢
  have hA : ∀ q : Nat, s.heap.size ≤ q → A q := fun q h => by rw [← hAe]; exact Or.inr h
  have hS : va_S A s.heap s.heap [] := va_S.rf
  have hl := lv_entry ([.ref o, .int i0, .int i1, .ref qL]) (n := 5) (Nat.le_of_ble_eq_true rfl)
  rw [lg_entry_eq]
  generalize (lg_sl ([.ref o, .int i0, .int i1, .ref qL]) ++ List.replicate (5 - (lg_sl ([.ref o, .int i0, .int i1, .ref qL])).length) Slot.unset).toArray = ls at hl ⊢
  have hl : lv_has ls 5 [(0, .ref o), (1, .int i0), (2, .int i1), (3, .ref qL)] := hl
  refine lv_aload_n hx hb dL_times_0 rfl (lv_at hl 3 rfl) ?_
  refine lv_iconst (v := 0) hx hb dL_times_1 (by decide) ?_
  refine lv_aload_n hx hb dL_times_2 rfl (lv_at hl 0 rfl) ?_
  refine lv_iload_n hx hb dL_times_3 rfl (lv_at hl 1 rfl) ?_
  refine lv_iload_n hx hb dL_times_4 rfl (lv_at hl 2 rfl) ?_
  refine ny_x hS (va_free (wc := [(o, .inr (3, [.ref q1, .ref q2, .ref q3, .ref q4])), (q1, .inl (cI, 12, .inl hf)), (q2, .inl (cZ, 12, .inl bf))]) hD hS hA [0, 1, 2] rfl) (vx_runV (As := [.int i0, .int i1]) (rest := [.int 0, .ref qL]) ⟨hx, hb, hml, hown, hts⟩ (c_X1_times_noP l D cI cZ o q1 q2 q3 q4 s.heap.size hf bf i0 i1 (by assumption) (by assumption)) (cwV 2 hts gL_times_X1_times rfl rfl rfl (by decide +kernel) ⟨Nat.le_of_ble_eq_true rfl, Nat.le_of_ble_eq_true rfl⟩) ⟨ny_blind, va_recv hK hP (ci := 3) (q0 := 0) rfl rfl, fun U hU hW => ⟨rfl, ny_preU hE hP hK hD hS hA [0, 1, 2] rfl (by decide) rfl [0, 1] rfl U hU hW⟩⟩ rfl rfl hl.1 rfl (lv_room (Nat.le_of_ble_eq_true rfl)) dL_times_5 ⟨Nat.le_of_ble_eq_true rfl, Nat.le_of_ble_eq_true rfl⟩) (fun ce q9 H locs hz9 hk9 hS hc9 hv9 hn9 => ?_)
  have hP : va_P D vwCl [(o, .inr (3, [.ref q1, .ref q2, .ref q3, .ref q4])), (q1, .inl (cI, 12, .inl hf)), (q2, .inl (cZ, 12, .inl bf)), (qL, .inl (cL, 1, .inr (.inl lf)))] H := ny_keep hP hk9
  refine vx_catch (own := RL) (name := ny_IO) (E := ny_IO) hown (tableOf []) ⟨0, 10, 13, 13⟩ (tableOf [(0, 10, 17, 39)]) (htab.trans rfl) (fun z hz => absurd hz List.not_mem_nil) (by decide) (by decide) (hts (.classLink RL 13 "java/lang/IndexOutOfBoundsException") (List.mem_of_getElem? (i := 1) rfl)) (va_Nw.use rfl (hE.2.2.2.2.1 _ (List.mem_of_getElem? (i := 0) rfl))) hc9 hv9 hn9 ?_
  refine W.eq (g2 := F0 m 13 ls [.ref q9]) rfl ?_
  refine lv_astore (lv' := [(4, .ref q9), (0, .ref o), (1, .int i0), (2, .int i1), (3, .ref qL)]) hx hb dL_times_13 hl (by decide) rfl (fun ls hl => ?_)
  refine lv_iconst (v := 1) hx hb dL_times_15 (by decide) ?_
  have hP9 := hP.sub (ws' := [(o, .inr (3, [.ref q1, .ref q2, .ref q3, .ref q4])), (q1, .inl (cI, 12, .inl hf)), (q2, .inl (cZ, 12, .inl bf)), (qL, .inl (cL, 1, .inr (.inl lf)))]) [0, 1, 2, 3] rfl
  have hD9 := hD.sub (ws' := [(o, .inr (3, [.ref q1, .ref q2, .ref q3, .ref q4])), (q1, .inl (cI, 12, .inl hf)), (q2, .inl (cZ, 12, .inl bf)), (qL, .inl (cL, 1, .inr (.inl lf)))]) [0, 1, 2, 3] (by decide) rfl
  refine W.widen (k := 1) (n := 6) (Nat.le_of_ble_eq_true rfl) (Nat.le_of_ble_eq_true rfl) ?_
  exact W.iret (v := 1) hx hb hr (fun t ht hW => ⟨⟨1, (), rfl, (rfl), by rw [ht]; exact hP9, va_K.moved hW.alike hK, hD9⟩, hS.F ht⟩) hS.2.2 dL_times_16
set_option maxHeartbeats 4000000 in
set_option maxRecDepth 100000 in
theorem c_L_times_no0 (l : Launch) (D : va_G) (cI : ClassId) (cZ : ClassId) (o : Nat) (q1 : Nat) (q2 : Nat) (q3 : Nat) (q4 : Nat) (sz : Nat) (hf : Nat → Int32) (bf : Nat → Int32) (i0 : Int32) (i1 : Int32) (cL : ClassId) (qL : Nat) (lf : Nat → Int64) (gl : l.stackTraces = false) (gp0 : vp_in i0 12) (gp1 : vp_in i1 12) (g0 : hf i1.toNatClampNeg = 0) : Met l yL_times wsL_times ({ frames := 8, cells := 1, slots := 6, locals := 134 }) (va_Pc [.ref o, .int i0, .int i1, .ref qL] (ny_pre D [(cI, .int), (cZ, .boolean), (cL, .long)] [(o, .inr (3, [.ref q1, .ref q2, .ref q3, .ref q4])), (q1, .inl (cI, 12, .inl hf)), (q2, .inl (cZ, 12, .inl bf)), (qL, .inl (cL, 1, .inr (.inl lf)))] sz)) (va_Qi (fun (r : Int32) (u : Unit) => r = 2) (fun (u : Unit) t => ny_at D [(cI, .int), (cZ, .boolean), (cL, .long)] (va_A [(o, .inr (3, [.ref q1, .ref q2, .ref q3, .ref q4])), (q1, .inl (cI, 12, .inl hf)), (q2, .inl (cZ, 12, .inl bf)), (qL, .inl (cL, 1, .inr (.inl lf)))] sz) [(o, .inr (3, [.ref q1, .ref q2, .ref q3, .ref q4])), (q1, .inl (cI, 12, .inl hf)), (q2, .inl (cZ, 12, .inl bf)), (qL, .inl (cL, 1, .inr (.inl lf)))] t) (va_A [(o, .inr (3, [.ref q1, .ref q2, .ref q3, .ref q4])), (q1, .inl (cI, 12, .inl hf)), (q2, .inl (cZ, 12, .inl bf)), (qL, .inl (cL, 1, .inr (.inl lf)))] sz)) 1 6 (va_A [(o, .inr (3, [.ref q1, .ref q2, .ref q3, .ref q4])), (q1, .inl (cI, 12, .inl hf)), (q2, .inl (cZ, 12, .inl bf)), (qL, .inl (cL, 1, .inr (.inl lf)))] sz) := by
  refine va_MetW (cc := cL_times) (maxL := 5) (ret := (some .int)) (by decide) rfl ?_
  intro p e s m args below meth c s₁ B hml hv
  obtain ⟨rfl, hsz, hP, hK, hD0, hE⟩ := hv
  have hx := B.exec
  have hb := B.bytes
  have hr := B.returns
  have hts := atoms_spec (ws := wsL_times) B.pre
  have hown : s.vm.findClass RL = some m.cls := findClass_of_methodNamed B.named
  have hlocks := B.notSynchronized
  have htab := vx_table (x := yL_times) B (hts _ List.mem_cons_self)
  subst hsz
  have hD := hD0.self (sz := s.heap.size)
  generalize hAe : va_A [(o, .inr (3, [.ref q1, .ref q2, .ref q3, .ref q4])), (q1, .inl (cI, 12, .inl hf)), (q2, .inl (cZ, 12, .inl bf)), (qL, .inl (cL, 1, .inr (.inl lf)))] s.heap.size = A at hD hE ⊢
  have hA : ∀ q : Nat, s.heap.size ≤ q → A q := fun q h => by rw [← hAe]; exact Or.inr h
  have hS : va_S A s.heap s.heap [] := va_S.rf
  have hl := lv_entry ([.ref o, .int i0, .int i1, .ref qL]) (n := 5) (Nat.le_of_ble_eq_true rfl)
  rw [lg_entry_eq]
  generalize (lg_sl ([.ref o, .int i0, .int i1, .ref qL]) ++ List.replicate (5 - (lg_sl ([.ref o, .int i0, .int i1, .ref qL])).length) Slot.unset).toArray = ls at hl ⊢
  have hl : lv_has ls 5 [(0, .ref o), (1, .int i0), (2, .int i1), (3, .ref qL)] := hl
  refine lv_aload_n hx hb dL_times_0 rfl (lv_at hl 3 rfl) ?_
  refine lv_iconst (v := 0) hx hb dL_times_1 (by decide) ?_
  refine lv_aload_n hx hb dL_times_2 rfl (lv_at hl 0 rfl) ?_
  refine lv_iload_n hx hb dL_times_3 rfl (lv_at hl 1 rfl) ?_
  refine lv_iload_n hx hb dL_times_4 rfl (lv_at hl 2 rfl) ?_
  refine ny_x hS (va_free (wc := [(o, .inr (3, [.ref q1, .ref q2, .ref q3, .ref q4])), (q1, .inl (cI, 12, .inl hf)), (q2, .inl (cZ, 12, .inl bf))]) hD hS hA [0, 1, 2] rfl) (vx_runV (As := [.int i0, .int i1]) (rest := [.int 0, .ref qL]) ⟨hx, hb, hml, hown, hts⟩ (c_X1_times_no0 l D cI cZ o q1 q2 q3 q4 s.heap.size hf bf i0 i1 (by assumption) (by assumption) (by assumption) (by assumption)) (cwV 2 hts gL_times_X1_times rfl rfl rfl (by decide +kernel) ⟨Nat.le_of_ble_eq_true rfl, Nat.le_of_ble_eq_true rfl⟩) ⟨ny_blind, va_recv hK hP (ci := 3) (q0 := 0) rfl rfl, fun U hU hW => ⟨rfl, ny_preU hE hP hK hD hS hA [0, 1, 2] rfl (by decide) rfl [0, 1] rfl U hU hW⟩⟩ rfl rfl hl.1 rfl (lv_room (Nat.le_of_ble_eq_true rfl)) dL_times_5 ⟨Nat.le_of_ble_eq_true rfl, Nat.le_of_ble_eq_true rfl⟩) (fun ce q9 H locs hz9 hk9 hS hc9 hv9 hn9 => ?_)
  have hP : va_P D vwCl [(o, .inr (3, [.ref q1, .ref q2, .ref q3, .ref q4])), (q1, .inl (cI, 12, .inl hf)), (q2, .inl (cZ, 12, .inl bf)), (qL, .inl (cL, 1, .inr (.inl lf)))] H := ny_keep hP hk9
  refine vx_catch (own := RL) (name := ny_AE) (E := ny_AE) hown (tableOf [(0, 10, 13, 13)]) ⟨0, 10, 17, 39⟩ (tableOf []) (htab.trans rfl) (List.forall_mem_cons.mpr ⟨Or.inr ⟨(by decide), ny_IO, (hts (.classLink RL 13 "java/lang/IndexOutOfBoundsException") (List.mem_of_getElem? (i := 1) rfl)), (hE.2.2.2.2.2.1 _ (List.mem_of_getElem? (i := 0) rfl))⟩, (fun z hz => absurd hz List.not_mem_nil)⟩) (by decide) (by decide) (hts (.classLink RL 39 "java/lang/ArithmeticException") (List.mem_of_getElem? (i := 2) rfl)) (va_Nw.use rfl (hE.2.2.2.2.1 _ (List.mem_of_getElem? (i := 2) rfl))) hc9 hv9 hn9 ?_
  refine W.eq (g2 := F0 m 17 ls [.ref q9]) rfl ?_
  refine lv_astore (lv' := [(4, .ref q9), (0, .ref o), (1, .int i0), (2, .int i1), (3, .ref qL)]) hx hb dL_times_17 hl (by decide) rfl (fun ls hl => ?_)
  refine lv_iconst (v := 2) hx hb dL_times_19 (by decide) ?_
  have hP9 := hP.sub (ws' := [(o, .inr (3, [.ref q1, .ref q2, .ref q3, .ref q4])), (q1, .inl (cI, 12, .inl hf)), (q2, .inl (cZ, 12, .inl bf)), (qL, .inl (cL, 1, .inr (.inl lf)))]) [0, 1, 2, 3] rfl
  have hD9 := hD.sub (ws' := [(o, .inr (3, [.ref q1, .ref q2, .ref q3, .ref q4])), (q1, .inl (cI, 12, .inl hf)), (q2, .inl (cZ, 12, .inl bf)), (qL, .inl (cL, 1, .inr (.inl lf)))]) [0, 1, 2, 3] (by decide) rfl
  refine W.widen (k := 1) (n := 6) (Nat.le_of_ble_eq_true rfl) (Nat.le_of_ble_eq_true rfl) ?_
  exact W.iret (v := 2) hx hb hr (fun t ht hW => ⟨⟨2, (), rfl, (rfl), by rw [ht]; exact hP9, va_K.moved hW.alike hK, hD9⟩, hS.F ht⟩) hS.2.2 dL_times_20
set_option maxHeartbeats 4000000 in
set_option maxRecDepth 100000 in
theorem c_L_isHalf (l : Launch) (D : va_G) (cI : ClassId) (cZ : ClassId) (o : Nat) (q1 : Nat) (q2 : Nat) (q3 : Nat) (q4 : Nat) (sz : Nat) (hf : Nat → Int32) (bf : Nat → Int32) (i0 : Int32) (i1 : Int32) (cL : ClassId) (qL : Nat) (lf : Nat → Int64) (gp0 : vp_in i0 12) (gp1 : vp_in i1 12) (g0 : ¬ hf i1.toNatClampNeg = 0) (gH : ny_H hf) : Met l yL_isHalf wsL_isHalf ({ frames := 4, cells := 0, slots := 0, locals := 91 }) (va_Pc [.ref o, .int i0, .int i1, .ref qL] (ny_pre D [(cI, .int), (cZ, .boolean), (cL, .long)] [(o, .inr (3, [.ref q1, .ref q2, .ref q3, .ref q4])), (q1, .inl (cI, 12, .inl hf)), (q2, .inl (cZ, 12, .inl bf)), (qL, .inl (cL, 1, .inr (.inl lf)))] sz)) (va_Qi (fun (r : Int32) (u : Unit) => r = 0) (fun (u : Unit) t => ny_at D [(cI, .int), (cZ, .boolean), (cL, .long)] (va_A [(o, .inr (3, [.ref q1, .ref q2, .ref q3, .ref q4])), (q1, .inl (cI, 12, .inl hf)), (q2, .inl (cZ, 12, .inl bf)), (qL, .inl (cL, 1, .inr (.inl lf)))] sz) [(o, .inr (3, [.ref q1, .ref q2, .ref q3, .ref q4])), (q1, .inl (cI, 12, .inl hf)), (q2, .inl (cZ, 12, .inl bf)), (qL, .inl (cL, 1, .inr (.inl (vp_updL lf (0 : Int32).toNatClampNeg ((if 2 * ny_ab (f_re (hf i0.toNatClampNeg) (hf i1.toNatClampNeg)) = ny_ab (hf i1.toNatClampNeg) then 1 else 0 : Int32).toInt64)))))] t) (va_A [(o, .inr (3, [.ref q1, .ref q2, .ref q3, .ref q4])), (q1, .inl (cI, 12, .inl hf)), (q2, .inl (cZ, 12, .inl bf)), (qL, .inl (cL, 1, .inr (.inl lf)))] sz)) 0 0 (va_A [(o, .inr (3, [.ref q1, .ref q2, .ref q3, .ref q4])), (q1, .inl (cI, 12, .inl hf)), (q2, .inl (cZ, 12, .inl bf)), (qL, .inl (cL, 1, .inr (.inl lf)))] sz) := by
  refine va_MetW (cc := cL_isHalf) (maxL := 5) (ret := (some .int)) (by decide) rfl ?_
  intro p e s m args below meth c s₁ B hml hv
  obtain ⟨rfl, hsz, hP, hK, hD0, hE⟩ := hv
  have hx := B.exec
  have hb := B.bytes
  have hr := B.returns
  have hts := atoms_spec (ws := wsL_isHalf) B.pre
  have hown : s.vm.findClass RL = some m.cls := findClass_of_methodNamed B.named
  have hlocks := B.notSynchronized
  have htab := vx_table (x := yL_isHalf) B (hts _ List.mem_cons_self)
  subst hsz
  have hD := hD0.self (sz := s.heap.size)
  generalize hAe : va_A [(o, .inr (3, [.ref q1, .ref q2, .ref q3, .ref q4])), (q1, .inl (cI, 12, .inl hf)), (q2, .inl (cZ, 12, .inl bf)), (qL, .inl (cL, 1, .inr (.inl lf)))] s.heap.size = A at hD hE ⊢
  have hA : ∀ q : Nat, s.heap.size ≤ q → A q := fun q h => by rw [← hAe]; exact Or.inr h
  have hS : va_S A s.heap s.heap [] := va_S.rf
  have hl := lv_entry ([.ref o, .int i0, .int i1, .ref qL]) (n := 5) (Nat.le_of_ble_eq_true rfl)
  rw [lg_entry_eq]
  generalize (lg_sl ([.ref o, .int i0, .int i1, .ref qL]) ++ List.replicate (5 - (lg_sl ([.ref o, .int i0, .int i1, .ref qL])).length) Slot.unset).toArray = ls at hl ⊢
  have hl : lv_has ls 5 [(0, .ref o), (1, .int i0), (2, .int i1), (3, .ref qL)] := hl
  refine lv_aload_n hx hb dL_isHalf_0 rfl (lv_at hl 3 rfl) ?_
  refine lv_iconst (v := 0) hx hb dL_isHalf_1 (by decide) ?_
  refine lv_aload_n hx hb dL_isHalf_2 rfl (lv_at hl 0 rfl) ?_
  refine lv_iload_n hx hb dL_isHalf_3 rfl (lv_at hl 1 rfl) ?_
  refine lv_iload_n hx hb dL_isHalf_4 rfl (lv_at hl 2 rfl) ?_
  refine vp_callSi (va_Run.run (va_runV (As := [.int i0, .int i1]) (rest := [.int 0, .ref qL]) ⟨hx, hb, hml, hown, hts⟩ (c_X1_isHalf l D cI cZ o q1 q2 q3 q4 s.heap.size hf bf i0 i1 (by assumption) (by assumption) (by assumption) (by assumption)) (cwV 2 hts gL_isHalf_X1_isHalf rfl rfl rfl (by decide +kernel) ⟨Nat.le_of_ble_eq_true rfl, Nat.le_of_ble_eq_true rfl⟩) ⟨ny_blind, va_recv hK hP (ci := 3) (q0 := 0) rfl rfl, fun U hU hW => ⟨rfl, ny_preU hE hP hK hD hS hA [0, 1, 2] rfl (by decide) rfl [0, 1] rfl U hU hW⟩⟩ rfl rfl hl.1 rfl (lv_room (Nat.le_of_ble_eq_true rfl)) dL_isHalf_5 ⟨Nat.le_of_ble_eq_true rfl, Nat.le_of_ble_eq_true rfl⟩)) (fun r_5 hw_5 => ?_)
  have hw_5 : r_5 = if 2 * ny_ab (f_re (hf i0.toNatClampNeg) (hf i1.toNatClampNeg)) = ny_ab (hf i1.toNatClampNeg) then 1 else 0 := hw_5
  subst hw_5
  refine lv_if_eq (tgt := 15) hx hb dL_isHalf_8 (by decide) (fun c_8 => ?_) (fun c_8 => ?_)
  · refine lv_lconst (v := 0) hx hb dL_isHalf_15 (by decide) ?_
    refine ny_tl (x2 := (if 2 * ny_ab (f_re (hf i0.toNatClampNeg) (hf i1.toNatClampNeg)) = ny_ab (hf i1.toNatClampNeg) then 1 else 0 : Int32).toInt64) (n_qt0 c_8) ?_
    refine va_last hx hb hK hP hD hS 3 2 rfl rfl (vp_in_iff.mpr (by decide)) dL_isHalf_16 (fun H locs hP hD hS => ?_)
    have hP : va_P D vwCl [(o, .inr (3, [.ref q1, .ref q2, .ref q3, .ref q4])), (q1, .inl (cI, 12, .inl hf)), (q2, .inl (cZ, 12, .inl bf)), (qL, .inl (cL, 1, .inr (.inl (vp_updL lf (0 : Int32).toNatClampNeg ((if 2 * ny_ab (f_re (hf i0.toNatClampNeg) (hf i1.toNatClampNeg)) = ny_ab (hf i1.toNatClampNeg) then 1 else 0 : Int32).toInt64)))))] H := hP
    have hD : va_D A [(o, .inr (3, [.ref q1, .ref q2, .ref q3, .ref q4])), (q1, .inl (cI, 12, .inl hf)), (q2, .inl (cZ, 12, .inl bf)), (qL, .inl (cL, 1, .inr (.inl (vp_updL lf (0 : Int32).toNatClampNeg ((if 2 * ny_ab (f_re (hf i0.toNatClampNeg) (hf i1.toNatClampNeg)) = ny_ab (hf i1.toNatClampNeg) then 1 else 0 : Int32).toInt64)))))] := hD
    refine lv_goto (tgt := 28) hx hb dL_isHalf_17 (by decide) ?_
    refine lv_iconst (v := 0) hx hb dL_isHalf_28 (by decide) ?_
    have hP9 := hP.sub (ws' := [(o, .inr (3, [.ref q1, .ref q2, .ref q3, .ref q4])), (q1, .inl (cI, 12, .inl hf)), (q2, .inl (cZ, 12, .inl bf)), (qL, .inl (cL, 1, .inr (.inl (vp_updL lf (0 : Int32).toNatClampNeg ((if 2 * ny_ab (f_re (hf i0.toNatClampNeg) (hf i1.toNatClampNeg)) = ny_ab (hf i1.toNatClampNeg) then 1 else 0 : Int32).toInt64)))))]) [0, 1, 2, 3] rfl
    have hD9 := hD.sub (ws' := [(o, .inr (3, [.ref q1, .ref q2, .ref q3, .ref q4])), (q1, .inl (cI, 12, .inl hf)), (q2, .inl (cZ, 12, .inl bf)), (qL, .inl (cL, 1, .inr (.inl (vp_updL lf (0 : Int32).toNatClampNeg ((if 2 * ny_ab (f_re (hf i0.toNatClampNeg) (hf i1.toNatClampNeg)) = ny_ab (hf i1.toNatClampNeg) then 1 else 0 : Int32).toInt64)))))]) [0, 1, 2, 3] (by decide) rfl
    exact W.iret (v := 0) hx hb hr (fun t ht hW => ⟨⟨0, (), rfl, (rfl), by rw [ht]; exact hP9, va_K.moved hW.alike hK, hD9⟩, hS.F ht⟩) hS.2.2 dL_isHalf_29
  · refine lv_lconst (v := 1) hx hb dL_isHalf_11 (by decide) ?_
    refine lv_goto (tgt := 16) hx hb dL_isHalf_12 (by decide) ?_
    refine ny_tl (x2 := (if 2 * ny_ab (f_re (hf i0.toNatClampNeg) (hf i1.toNatClampNeg)) = ny_ab (hf i1.toNatClampNeg) then 1 else 0 : Int32).toInt64) (n_qt1 c_8) ?_
    refine va_last hx hb hK hP hD hS 3 2 rfl rfl (vp_in_iff.mpr (by decide)) dL_isHalf_16 (fun H locs hP hD hS => ?_)
    have hP : va_P D vwCl [(o, .inr (3, [.ref q1, .ref q2, .ref q3, .ref q4])), (q1, .inl (cI, 12, .inl hf)), (q2, .inl (cZ, 12, .inl bf)), (qL, .inl (cL, 1, .inr (.inl (vp_updL lf (0 : Int32).toNatClampNeg ((if 2 * ny_ab (f_re (hf i0.toNatClampNeg) (hf i1.toNatClampNeg)) = ny_ab (hf i1.toNatClampNeg) then 1 else 0 : Int32).toInt64)))))] H := hP
    have hD : va_D A [(o, .inr (3, [.ref q1, .ref q2, .ref q3, .ref q4])), (q1, .inl (cI, 12, .inl hf)), (q2, .inl (cZ, 12, .inl bf)), (qL, .inl (cL, 1, .inr (.inl (vp_updL lf (0 : Int32).toNatClampNeg ((if 2 * ny_ab (f_re (hf i0.toNatClampNeg) (hf i1.toNatClampNeg)) = ny_ab (hf i1.toNatClampNeg) then 1 else 0 : Int32).toInt64)))))] := hD
    refine lv_goto (tgt := 28) hx hb dL_isHalf_17 (by decide) ?_
    refine lv_iconst (v := 0) hx hb dL_isHalf_28 (by decide) ?_
    have hP9 := hP.sub (ws' := [(o, .inr (3, [.ref q1, .ref q2, .ref q3, .ref q4])), (q1, .inl (cI, 12, .inl hf)), (q2, .inl (cZ, 12, .inl bf)), (qL, .inl (cL, 1, .inr (.inl (vp_updL lf (0 : Int32).toNatClampNeg ((if 2 * ny_ab (f_re (hf i0.toNatClampNeg) (hf i1.toNatClampNeg)) = ny_ab (hf i1.toNatClampNeg) then 1 else 0 : Int32).toInt64)))))]) [0, 1, 2, 3] rfl
    have hD9 := hD.sub (ws' := [(o, .inr (3, [.ref q1, .ref q2, .ref q3, .ref q4])), (q1, .inl (cI, 12, .inl hf)), (q2, .inl (cZ, 12, .inl bf)), (qL, .inl (cL, 1, .inr (.inl (vp_updL lf (0 : Int32).toNatClampNeg ((if 2 * ny_ab (f_re (hf i0.toNatClampNeg) (hf i1.toNatClampNeg)) = ny_ab (hf i1.toNatClampNeg) then 1 else 0 : Int32).toInt64)))))]) [0, 1, 2, 3] (by decide) rfl
    exact W.iret (v := 0) hx hb hr (fun t ht hW => ⟨⟨0, (), rfl, (rfl), by rw [ht]; exact hP9, va_K.moved hW.alike hK, hD9⟩, hS.F ht⟩) hS.2.2 dL_isHalf_29
set_option maxHeartbeats 4000000 in
set_option maxRecDepth 100000 in
theorem c_L_isHalf_noP (l : Launch) (D : va_G) (cI : ClassId) (cZ : ClassId) (o : Nat) (q1 : Nat) (q2 : Nat) (q3 : Nat) (q4 : Nat) (sz : Nat) (hf : Nat → Int32) (bf : Nat → Int32) (i0 : Int32) (i1 : Int32) (cL : ClassId) (qL : Nat) (lf : Nat → Int64) (gl : l.stackTraces = false) (gb : ¬ vp_in i0 12 ∨ ¬ vp_in i1 12) : Met l yL_isHalf wsL_isHalf ({ frames := 9, cells := 1, slots := 6, locals := 154 }) (va_Pc [.ref o, .int i0, .int i1, .ref qL] (ny_pre D [(cI, .int), (cZ, .boolean), (cL, .long)] [(o, .inr (3, [.ref q1, .ref q2, .ref q3, .ref q4])), (q1, .inl (cI, 12, .inl hf)), (q2, .inl (cZ, 12, .inl bf)), (qL, .inl (cL, 1, .inr (.inl lf)))] sz)) (va_Qi (fun (r : Int32) (u : Unit) => r = 1) (fun (u : Unit) t => ny_at D [(cI, .int), (cZ, .boolean), (cL, .long)] (va_A [(o, .inr (3, [.ref q1, .ref q2, .ref q3, .ref q4])), (q1, .inl (cI, 12, .inl hf)), (q2, .inl (cZ, 12, .inl bf)), (qL, .inl (cL, 1, .inr (.inl lf)))] sz) [(o, .inr (3, [.ref q1, .ref q2, .ref q3, .ref q4])), (q1, .inl (cI, 12, .inl hf)), (q2, .inl (cZ, 12, .inl bf)), (qL, .inl (cL, 1, .inr (.inl lf)))] t) (va_A [(o, .inr (3, [.ref q1, .ref q2, .ref q3, .ref q4])), (q1, .inl (cI, 12, .inl hf)), (q2, .inl (cZ, 12, .inl bf)), (qL, .inl (cL, 1, .inr (.inl lf)))] sz)) 1 6 (va_A [(o, .inr (3, [.ref q1, .ref q2, .ref q3, .ref q4])), (q1, .inl (cI, 12, .inl hf)), (q2, .inl (cZ, 12, .inl bf)), (qL, .inl (cL, 1, .inr (.inl lf)))] sz) := by
  refine va_MetW (cc := cL_isHalf) (maxL := 5) (ret := (some .int)) (by decide) rfl ?_
  intro p e s m args below meth c s₁ B hml hv
  obtain ⟨rfl, hsz, hP, hK, hD0, hE⟩ := hv
  have hx := B.exec
  have hb := B.bytes
  have hr := B.returns
  have hts := atoms_spec (ws := wsL_isHalf) B.pre
  have hown : s.vm.findClass RL = some m.cls := findClass_of_methodNamed B.named
  have hlocks := B.notSynchronized
  have htab := vx_table (x := yL_isHalf) B (hts _ List.mem_cons_self)
  subst hsz
  have hD := hD0.self (sz := s.heap.size)
  generalize hAe : va_A [(o, .inr (3, [.ref q1, .ref q2, .ref q3, .ref q4])), (q1, .inl (cI, 12, .inl hf)), (q2, .inl (cZ, 12, .inl bf)), (qL, .inl (cL, 1, .inr (.inl lf)))] s.heap.size = A at hD hE ⊢
  have hA : ∀ q : Nat, s.heap.size ≤ q → A q := fun q h => by rw [← hAe]; exact Or.inr h
  have hS : va_S A s.heap s.heap [] := va_S.rf
  have hl := lv_entry ([.ref o, .int i0, .int i1, .ref qL]) (n := 5) (Nat.le_of_ble_eq_true rfl)
  rw [lg_entry_eq]
  generalize (lg_sl ([.ref o, .int i0, .int i1, .ref qL]) ++ List.replicate (5 - (lg_sl ([.ref o, .int i0, .int i1, .ref qL])).length) Slot.unset).toArray = ls at hl ⊢
  have hl : lv_has ls 5 [(0, .ref o), (1, .int i0), (2, .int i1), (3, .ref qL)] := hl
  refine lv_aload_n hx hb dL_isHalf_0 rfl (lv_at hl 3 rfl) ?_
  refine lv_iconst (v := 0) hx hb dL_isHalf_1 (by decide) ?_
  refine lv_aload_n hx hb dL_isHalf_2 rfl (lv_at hl 0 rfl) ?_
  refine lv_iload_n hx hb dL_isHalf_3 rfl (lv_at hl 1 rfl) ?_
  refine lv_iload_n hx hb dL_isHalf_4 rfl (lv_at hl 2 rfl) ?_
  refine ny_x hS (va_free (wc := [(o, .inr (3, [.ref q1, .ref q2, .ref q3, .ref q4])), (q1, .inl (cI, 12, .inl hf)), (q2, .inl (cZ, 12, .inl bf))]) hD hS hA [0, 1, 2] rfl) (vx_runV (As := [.int i0, .int i1]) (rest := [.int 0, .ref qL]) ⟨hx, hb, hml, hown, hts⟩ (c_X1_isHalf_noP l D cI cZ o q1 q2 q3 q4 s.heap.size hf bf i0 i1 (by assumption) (by assumption)) (cwV 2 hts gL_isHalf_X1_isHalf rfl rfl rfl (by decide +kernel) ⟨Nat.le_of_ble_eq_true rfl, Nat.le_of_ble_eq_true rfl⟩) ⟨ny_blind, va_recv hK hP (ci := 3) (q0 := 0) rfl rfl, fun U hU hW => ⟨rfl, ny_preU hE hP hK hD hS hA [0, 1, 2] rfl (by decide) rfl [0, 1] rfl U hU hW⟩⟩ rfl rfl hl.1 rfl (lv_room (Nat.le_of_ble_eq_true rfl)) dL_isHalf_5 ⟨Nat.le_of_ble_eq_true rfl, Nat.le_of_ble_eq_true rfl⟩) (fun ce q9 H locs hz9 hk9 hS hc9 hv9 hn9 => ?_)
  have hP : va_P D vwCl [(o, .inr (3, [.ref q1, .ref q2, .ref q3, .ref q4])), (q1, .inl (cI, 12, .inl hf)), (q2, .inl (cZ, 12, .inl bf)), (qL, .inl (cL, 1, .inr (.inl lf)))] H := ny_keep hP hk9
  refine vx_catch (own := RL) (name := ny_IO) (E := ny_IO) hown (tableOf []) ⟨0, 17, 20, 13⟩ (tableOf [(0, 17, 24, 39)]) (htab.trans rfl) (fun z hz => absurd hz List.not_mem_nil) (by decide) (by decide) (hts (.classLink RL 13 "java/lang/IndexOutOfBoundsException") (List.mem_of_getElem? (i := 1) rfl)) (va_Nw.use rfl (hE.2.2.2.2.1 _ (List.mem_of_getElem? (i := 0) rfl))) hc9 hv9 hn9 ?_
  refine W.eq (g2 := F0 m 20 ls [.ref q9]) rfl ?_
  refine lv_astore (lv' := [(4, .ref q9), (0, .ref o), (1, .int i0), (2, .int i1), (3, .ref qL)]) hx hb dL_isHalf_20 hl (by decide) rfl (fun ls hl => ?_)
  refine lv_iconst (v := 1) hx hb dL_isHalf_22 (by decide) ?_
  have hP9 := hP.sub (ws' := [(o, .inr (3, [.ref q1, .ref q2, .ref q3, .ref q4])), (q1, .inl (cI, 12, .inl hf)), (q2, .inl (cZ, 12, .inl bf)), (qL, .inl (cL, 1, .inr (.inl lf)))]) [0, 1, 2, 3] rfl
  have hD9 := hD.sub (ws' := [(o, .inr (3, [.ref q1, .ref q2, .ref q3, .ref q4])), (q1, .inl (cI, 12, .inl hf)), (q2, .inl (cZ, 12, .inl bf)), (qL, .inl (cL, 1, .inr (.inl lf)))]) [0, 1, 2, 3] (by decide) rfl
  refine W.widen (k := 1) (n := 6) (Nat.le_of_ble_eq_true rfl) (Nat.le_of_ble_eq_true rfl) ?_
  exact W.iret (v := 1) hx hb hr (fun t ht hW => ⟨⟨1, (), rfl, (rfl), by rw [ht]; exact hP9, va_K.moved hW.alike hK, hD9⟩, hS.F ht⟩) hS.2.2 dL_isHalf_23
set_option maxHeartbeats 4000000 in
set_option maxRecDepth 100000 in
theorem c_L_isHalf_no0 (l : Launch) (D : va_G) (cI : ClassId) (cZ : ClassId) (o : Nat) (q1 : Nat) (q2 : Nat) (q3 : Nat) (q4 : Nat) (sz : Nat) (hf : Nat → Int32) (bf : Nat → Int32) (i0 : Int32) (i1 : Int32) (cL : ClassId) (qL : Nat) (lf : Nat → Int64) (gl : l.stackTraces = false) (gp0 : vp_in i0 12) (gp1 : vp_in i1 12) (g0 : hf i1.toNatClampNeg = 0) : Met l yL_isHalf wsL_isHalf ({ frames := 8, cells := 1, slots := 6, locals := 134 }) (va_Pc [.ref o, .int i0, .int i1, .ref qL] (ny_pre D [(cI, .int), (cZ, .boolean), (cL, .long)] [(o, .inr (3, [.ref q1, .ref q2, .ref q3, .ref q4])), (q1, .inl (cI, 12, .inl hf)), (q2, .inl (cZ, 12, .inl bf)), (qL, .inl (cL, 1, .inr (.inl lf)))] sz)) (va_Qi (fun (r : Int32) (u : Unit) => r = 2) (fun (u : Unit) t => ny_at D [(cI, .int), (cZ, .boolean), (cL, .long)] (va_A [(o, .inr (3, [.ref q1, .ref q2, .ref q3, .ref q4])), (q1, .inl (cI, 12, .inl hf)), (q2, .inl (cZ, 12, .inl bf)), (qL, .inl (cL, 1, .inr (.inl lf)))] sz) [(o, .inr (3, [.ref q1, .ref q2, .ref q3, .ref q4])), (q1, .inl (cI, 12, .inl hf)), (q2, .inl (cZ, 12, .inl bf)), (qL, .inl (cL, 1, .inr (.inl lf)))] t) (va_A [(o, .inr (3, [.ref q1, .ref q2, .ref q3, .ref q4])), (q1, .inl (cI, 12, .inl hf)), (q2, .inl (cZ, 12, .inl bf)), (qL, .inl (cL, 1, .inr (.inl lf)))] sz)) 1 6 (va_A [(o, .inr (3, [.ref q1, .ref q2, .ref q3, .ref q4])), (q1, .inl (cI, 12, .inl hf)), (q2, .inl (cZ, 12, .inl bf)), (qL, .inl (cL, 1, .inr (.inl lf)))] sz) := by
  refine va_MetW (cc := cL_isHalf) (maxL := 5) (ret := (some .int)) (by decide) rfl ?_
  intro p e s m args below meth c s₁ B hml hv
  obtain ⟨rfl, hsz, hP, hK, hD0, hE⟩ := hv
  have hx := B.exec
  have hb := B.bytes
  have hr := B.returns
  have hts := atoms_spec (ws := wsL_isHalf) B.pre
  have hown : s.vm.findClass RL = some m.cls := findClass_of_methodNamed B.named
  have hlocks := B.notSynchronized
  have htab := vx_table (x := yL_isHalf) B (hts _ List.mem_cons_self)
  subst hsz
  have hD := hD0.self (sz := s.heap.size)
  generalize hAe : va_A [(o, .inr (3, [.ref q1, .ref q2, .ref q3, .ref q4])), (q1, .inl (cI, 12, .inl hf)), (q2, .inl (cZ, 12, .inl bf)), (qL, .inl (cL, 1, .inr (.inl lf)))] s.heap.size = A at hD hE ⊢
  have hA : ∀ q : Nat, s.heap.size ≤ q → A q := fun q h => by rw [← hAe]; exact Or.inr h
  have hS : va_S A s.heap s.heap [] := va_S.rf
  have hl := lv_entry ([.ref o, .int i0, .int i1, .ref qL]) (n := 5) (Nat.le_of_ble_eq_true rfl)
  rw [lg_entry_eq]
  generalize (lg_sl ([.ref o, .int i0, .int i1, .ref qL]) ++ List.replicate (5 - (lg_sl ([.ref o, .int i0, .int i1, .ref qL])).length) Slot.unset).toArray = ls at hl ⊢
  have hl : lv_has ls 5 [(0, .ref o), (1, .int i0), (2, .int i1), (3, .ref qL)] := hl
  refine lv_aload_n hx hb dL_isHalf_0 rfl (lv_at hl 3 rfl) ?_
  refine lv_iconst (v := 0) hx hb dL_isHalf_1 (by decide) ?_
  refine lv_aload_n hx hb dL_isHalf_2 rfl (lv_at hl 0 rfl) ?_
  refine lv_iload_n hx hb dL_isHalf_3 rfl (lv_at hl 1 rfl) ?_
  refine lv_iload_n hx hb dL_isHalf_4 rfl (lv_at hl 2 rfl) ?_
  refine ny_x hS (va_free (wc := [(o, .inr (3, [.ref q1, .ref q2, .ref q3, .ref q4])), (q1, .inl (cI, 12, .inl hf)), (q2, .inl (cZ, 12, .inl bf))]) hD hS hA [0, 1, 2] rfl) (vx_runV (As := [.int i0, .int i1]) (rest := [.int 0, .ref qL]) ⟨hx, hb, hml, hown, hts⟩ (c_X1_isHalf_no0 l D cI cZ o q1 q2 q3 q4 s.heap.size hf bf i0 i1 (by assumption) (by assumption) (by assumption) (by assumption)) (cwV 2 hts gL_isHalf_X1_isHalf rfl rfl rfl (by decide +kernel) ⟨Nat.le_of_ble_eq_true rfl, Nat.le_of_ble_eq_true rfl⟩) ⟨ny_blind, va_recv hK hP (ci := 3) (q0 := 0) rfl rfl, fun U hU hW => ⟨rfl, ny_preU hE hP hK hD hS hA [0, 1, 2] rfl (by decide) rfl [0, 1] rfl U hU hW⟩⟩ rfl rfl hl.1 rfl (lv_room (Nat.le_of_ble_eq_true rfl)) dL_isHalf_5 ⟨Nat.le_of_ble_eq_true rfl, Nat.le_of_ble_eq_true rfl⟩) (fun ce q9 H locs hz9 hk9 hS hc9 hv9 hn9 => ?_)
  have hP : va_P D vwCl [(o, .inr (3, [.ref q1, .ref q2, .ref q3, .ref q4])), (q1, .inl (cI, 12, .inl hf)), (q2, .inl (cZ, 12, .inl bf)), (qL, .inl (cL, 1, .inr (.inl lf)))] H := ny_keep hP hk9
  refine vx_catch (own := RL) (name := ny_AE) (E := ny_AE) hown (tableOf [(0, 17, 20, 13)]) ⟨0, 17, 24, 39⟩ (tableOf []) (htab.trans rfl) (List.forall_mem_cons.mpr ⟨Or.inr ⟨(by decide), ny_IO, (hts (.classLink RL 13 "java/lang/IndexOutOfBoundsException") (List.mem_of_getElem? (i := 1) rfl)), (hE.2.2.2.2.2.1 _ (List.mem_of_getElem? (i := 0) rfl))⟩, (fun z hz => absurd hz List.not_mem_nil)⟩) (by decide) (by decide) (hts (.classLink RL 39 "java/lang/ArithmeticException") (List.mem_of_getElem? (i := 2) rfl)) (va_Nw.use rfl (hE.2.2.2.2.1 _ (List.mem_of_getElem? (i := 2) rfl))) hc9 hv9 hn9 ?_
  refine W.eq (g2 := F0 m 24 ls [.ref q9]) rfl ?_
  refine lv_astore (lv' := [(4, .ref q9), (0, .ref o), (1, .int i0), (2, .int i1), (3, .ref qL)]) hx hb dL_isHalf_24 hl (by decide) rfl (fun ls hl => ?_)
  refine lv_iconst (v := 2) hx hb dL_isHalf_26 (by decide) ?_
  have hP9 := hP.sub (ws' := [(o, .inr (3, [.ref q1, .ref q2, .ref q3, .ref q4])), (q1, .inl (cI, 12, .inl hf)), (q2, .inl (cZ, 12, .inl bf)), (qL, .inl (cL, 1, .inr (.inl lf)))]) [0, 1, 2, 3] rfl
  have hD9 := hD.sub (ws' := [(o, .inr (3, [.ref q1, .ref q2, .ref q3, .ref q4])), (q1, .inl (cI, 12, .inl hf)), (q2, .inl (cZ, 12, .inl bf)), (qL, .inl (cL, 1, .inr (.inl lf)))]) [0, 1, 2, 3] (by decide) rfl
  refine W.widen (k := 1) (n := 6) (Nat.le_of_ble_eq_true rfl) (Nat.le_of_ble_eq_true rfl) ?_
  exact W.iret (v := 2) hx hb hr (fun t ht hW => ⟨⟨2, (), rfl, (rfl), by rw [ht]; exact hP9, va_K.moved hW.alike hK, hD9⟩, hS.F ht⟩) hS.2.2 dL_isHalf_27
set_option maxHeartbeats 4000000 in
set_option maxRecDepth 100000 in
theorem c_L_cut (l : Launch) (D : va_G) (cI : ClassId) (cZ : ClassId) (o : Nat) (q1 : Nat) (q2 : Nat) (q3 : Nat) (q4 : Nat) (sz : Nat) (hf : Nat → Int32) (bf : Nat → Int32) (i0 : Int32) (i1 : Int32) (i2 : Int32) (cL : ClassId) (qL : Nat) (lf : Nat → Int64) (gp0 : vp_in i0 12) (gp1 : vp_in i1 12) (gp2 : vp_in i2 12) (g0 : ¬ hf i2.toNatClampNeg = 0) (gH : ny_H hf) (gB : ny_BB bf) : Met l yL_cut wsL_cut ({ frames := 6, cells := 0, slots := 0, locals := 141 }) (va_Pc [.ref o, .int i0, .int i1, .int i2, .ref qL] (ny_pre D [(cI, .int), (cZ, .boolean), (cL, .long)] [(o, .inr (3, [.ref q1, .ref q2, .ref q3, .ref q4])), (q1, .inl (cI, 12, .inl hf)), (q2, .inl (cZ, 12, .inl bf)), (qL, .inl (cL, 1, .inr (.inl lf)))] sz)) (va_Qi (fun (r : Int32) (u : Unit) => r = 0) (fun (u : Unit) t => ny_at D [(cI, .int), (cZ, .boolean), (cL, .long)] (va_A [(o, .inr (3, [.ref q1, .ref q2, .ref q3, .ref q4])), (q1, .inl (cI, 12, .inl hf)), (q2, .inl (cZ, 12, .inl bf)), (qL, .inl (cL, 1, .inr (.inl lf)))] sz) [(o, .inr (3, [.ref q1, .ref q2, .ref q3, .ref q4])), (q1, .inl (cI, 12, .inl (upd hf i0.toNatClampNeg (f_cu (hf i1.toNatClampNeg) (hf i2.toNatClampNeg))))), (q2, .inl (cZ, 12, .inl (upd bf i0.toNatClampNeg (f_z (f_cu (hf i1.toNatClampNeg) (hf i2.toNatClampNeg)) (f_un (hf i1.toNatClampNeg) (bf i1.toNatClampNeg)))))), (qL, .inl (cL, 1, .inr (.inl (vp_updL lf (0 : Int32).toNatClampNeg (f_bt (f_cu (hf i1.toNatClampNeg) (hf i2.toNatClampNeg)) (f_un (hf i1.toNatClampNeg) (bf i1.toNatClampNeg)))))))] t) (va_A [(o, .inr (3, [.ref q1, .ref q2, .ref q3, .ref q4])), (q1, .inl (cI, 12, .inl hf)), (q2, .inl (cZ, 12, .inl bf)), (qL, .inl (cL, 1, .inr (.inl lf)))] sz)) 0 0 (va_A [(o, .inr (3, [.ref q1, .ref q2, .ref q3, .ref q4])), (q1, .inl (cI, 12, .inl hf)), (q2, .inl (cZ, 12, .inl bf)), (qL, .inl (cL, 1, .inr (.inl lf)))] sz) := by
  refine va_MetW (cc := cL_cut) (maxL := 6) (ret := (some .int)) (by decide) rfl ?_
  intro p e s m args below meth c s₁ B hml hv
  obtain ⟨rfl, hsz, hP, hK, hD0, hE⟩ := hv
  have hx := B.exec
  have hb := B.bytes
  have hr := B.returns
  have hts := atoms_spec (ws := wsL_cut) B.pre
  have hown : s.vm.findClass RL = some m.cls := findClass_of_methodNamed B.named
  have hlocks := B.notSynchronized
  have htab := vx_table (x := yL_cut) B (hts _ List.mem_cons_self)
  subst hsz
  have hD := hD0.self (sz := s.heap.size)
  generalize hAe : va_A [(o, .inr (3, [.ref q1, .ref q2, .ref q3, .ref q4])), (q1, .inl (cI, 12, .inl hf)), (q2, .inl (cZ, 12, .inl bf)), (qL, .inl (cL, 1, .inr (.inl lf)))] s.heap.size = A at hD hE ⊢
  have hA : ∀ q : Nat, s.heap.size ≤ q → A q := fun q h => by rw [← hAe]; exact Or.inr h
  have hS : va_S A s.heap s.heap [] := va_S.rf
  have hl := lv_entry ([.ref o, .int i0, .int i1, .int i2, .ref qL]) (n := 6) (Nat.le_of_ble_eq_true rfl)
  rw [lg_entry_eq]
  generalize (lg_sl ([.ref o, .int i0, .int i1, .int i2, .ref qL]) ++ List.replicate (6 - (lg_sl ([.ref o, .int i0, .int i1, .int i2, .ref qL])).length) Slot.unset).toArray = ls at hl ⊢
  have hl : lv_has ls 6 [(0, .ref o), (1, .int i0), (2, .int i1), (3, .int i2), (4, .ref qL)] := hl
  refine lv_aload hx hb dL_cut_0 (lv_at hl 4 rfl) ?_
  refine lv_iconst (v := 0) hx hb dL_cut_2 (by decide) ?_
  refine lv_aload_n hx hb dL_cut_3 rfl (lv_at hl 0 rfl) ?_
  refine lv_iload_n hx hb dL_cut_4 rfl (lv_at hl 1 rfl) ?_
  refine lv_iload_n hx hb dL_cut_5 rfl (lv_at hl 2 rfl) ?_
  refine lv_iload_n hx hb dL_cut_6 rfl (lv_at hl 3 rfl) ?_
  refine ny_l (wc := [(o, .inr (3, [.ref q1, .ref q2, .ref q3, .ref q4])), (q1, .inl (cI, 12, .inl hf)), (q2, .inl (cZ, 12, .inl bf))]) (wr := [(qL, .inl (cL, 1, .inr (.inl lf)))]) hP hD hS hA [0, 1, 2] [3] rfl rfl (by decide) (by decide) (va_runV (As := [.int i0, .int i1, .int i2]) (rest := [.int 0, .ref qL]) ⟨hx, hb, hml, hown, hts⟩ (c_X1_cut l D cI cZ o q1 q2 q3 q4 s.heap.size hf bf i0 i1 i2 (by assumption) (by assumption) (by assumption) (by assumption) (by assumption) (by assumption)) (cwV 3 hts gL_cut_X1_cut rfl rfl rfl (by decide +kernel) ⟨Nat.le_of_ble_eq_true rfl, Nat.le_of_ble_eq_true rfl⟩) ⟨ny_blind, va_recv hK hP (ci := 3) (q0 := 0) rfl rfl, fun U hU hW => ⟨rfl, ny_preU hE hP hK hD hS hA [0, 1, 2] rfl (by decide) rfl [0, 1] rfl U hU hW⟩⟩ rfl rfl hl.1 rfl (lv_room (Nat.le_of_ble_eq_true rfl)) dL_cut_7 ⟨Nat.le_of_ble_eq_true rfl, Nat.le_of_ble_eq_true rfl⟩) (fun r_7 u H locs hw_7 hP hD hS => ?_)
  have hP : va_P D vwCl [(qL, .inl (cL, 1, .inr (.inl lf))), (o, .inr (3, [.ref q1, .ref q2, .ref q3, .ref q4])), (q1, .inl (cI, 12, .inl (upd hf i0.toNatClampNeg (f_cu (hf i1.toNatClampNeg) (hf i2.toNatClampNeg))))), (q2, .inl (cZ, 12, .inl (upd bf i0.toNatClampNeg (f_z (f_cu (hf i1.toNatClampNeg) (hf i2.toNatClampNeg)) (f_un (hf i1.toNatClampNeg) (bf i1.toNatClampNeg))))))] H := hP
  have hD : va_D A [(qL, .inl (cL, 1, .inr (.inl lf))), (o, .inr (3, [.ref q1, .ref q2, .ref q3, .ref q4])), (q1, .inl (cI, 12, .inl (upd hf i0.toNatClampNeg (f_cu (hf i1.toNatClampNeg) (hf i2.toNatClampNeg))))), (q2, .inl (cZ, 12, .inl (upd bf i0.toNatClampNeg (f_z (f_cu (hf i1.toNatClampNeg) (hf i2.toNatClampNeg)) (f_un (hf i1.toNatClampNeg) (bf i1.toNatClampNeg))))))] := hD
  have hw_7 : r_7 = f_bt (f_cu (hf i1.toNatClampNeg) (hf i2.toNatClampNeg)) (f_un (hf i1.toNatClampNeg) (bf i1.toNatClampNeg)) := hw_7
  subst hw_7
  refine va_last hx hb hK hP hD hS 0 2 rfl rfl (vp_in_iff.mpr (by decide)) dL_cut_10 (fun H locs hP hD hS => ?_)
  have hP : va_P D vwCl [(qL, .inl (cL, 1, .inr (.inl (vp_updL lf (0 : Int32).toNatClampNeg (f_bt (f_cu (hf i1.toNatClampNeg) (hf i2.toNatClampNeg)) (f_un (hf i1.toNatClampNeg) (bf i1.toNatClampNeg))))))), (o, .inr (3, [.ref q1, .ref q2, .ref q3, .ref q4])), (q1, .inl (cI, 12, .inl (upd hf i0.toNatClampNeg (f_cu (hf i1.toNatClampNeg) (hf i2.toNatClampNeg))))), (q2, .inl (cZ, 12, .inl (upd bf i0.toNatClampNeg (f_z (f_cu (hf i1.toNatClampNeg) (hf i2.toNatClampNeg)) (f_un (hf i1.toNatClampNeg) (bf i1.toNatClampNeg))))))] H := hP
  have hD : va_D A [(qL, .inl (cL, 1, .inr (.inl (vp_updL lf (0 : Int32).toNatClampNeg (f_bt (f_cu (hf i1.toNatClampNeg) (hf i2.toNatClampNeg)) (f_un (hf i1.toNatClampNeg) (bf i1.toNatClampNeg))))))), (o, .inr (3, [.ref q1, .ref q2, .ref q3, .ref q4])), (q1, .inl (cI, 12, .inl (upd hf i0.toNatClampNeg (f_cu (hf i1.toNatClampNeg) (hf i2.toNatClampNeg))))), (q2, .inl (cZ, 12, .inl (upd bf i0.toNatClampNeg (f_z (f_cu (hf i1.toNatClampNeg) (hf i2.toNatClampNeg)) (f_un (hf i1.toNatClampNeg) (bf i1.toNatClampNeg))))))] := hD
  refine lv_goto (tgt := 22) hx hb dL_cut_11 (by decide) ?_
  refine lv_iconst (v := 0) hx hb dL_cut_22 (by decide) ?_
  have hP9 := hP.sub (ws' := [(o, .inr (3, [.ref q1, .ref q2, .ref q3, .ref q4])), (q1, .inl (cI, 12, .inl (upd hf i0.toNatClampNeg (f_cu (hf i1.toNatClampNeg) (hf i2.toNatClampNeg))))), (q2, .inl (cZ, 12, .inl (upd bf i0.toNatClampNeg (f_z (f_cu (hf i1.toNatClampNeg) (hf i2.toNatClampNeg)) (f_un (hf i1.toNatClampNeg) (bf i1.toNatClampNeg)))))), (qL, .inl (cL, 1, .inr (.inl (vp_updL lf (0 : Int32).toNatClampNeg (f_bt (f_cu (hf i1.toNatClampNeg) (hf i2.toNatClampNeg)) (f_un (hf i1.toNatClampNeg) (bf i1.toNatClampNeg)))))))]) [1, 2, 3, 0] rfl
  have hD9 := hD.sub (ws' := [(o, .inr (3, [.ref q1, .ref q2, .ref q3, .ref q4])), (q1, .inl (cI, 12, .inl (upd hf i0.toNatClampNeg (f_cu (hf i1.toNatClampNeg) (hf i2.toNatClampNeg))))), (q2, .inl (cZ, 12, .inl (upd bf i0.toNatClampNeg (f_z (f_cu (hf i1.toNatClampNeg) (hf i2.toNatClampNeg)) (f_un (hf i1.toNatClampNeg) (bf i1.toNatClampNeg)))))), (qL, .inl (cL, 1, .inr (.inl (vp_updL lf (0 : Int32).toNatClampNeg (f_bt (f_cu (hf i1.toNatClampNeg) (hf i2.toNatClampNeg)) (f_un (hf i1.toNatClampNeg) (bf i1.toNatClampNeg)))))))]) [1, 2, 3, 0] (by decide) rfl
  exact W.iret (v := 0) hx hb hr (fun t ht hW => ⟨⟨0, (), rfl, (rfl), by rw [ht]; exact hP9, va_K.moved hW.alike hK, hD9⟩, hS.F ht⟩) hS.2.2 dL_cut_23
set_option maxHeartbeats 4000000 in
set_option maxRecDepth 100000 in
theorem c_L_cut_noP (l : Launch) (D : va_G) (cI : ClassId) (cZ : ClassId) (o : Nat) (q1 : Nat) (q2 : Nat) (q3 : Nat) (q4 : Nat) (sz : Nat) (hf : Nat → Int32) (bf : Nat → Int32) (i0 : Int32) (i1 : Int32) (i2 : Int32) (cL : ClassId) (qL : Nat) (lf : Nat → Int64) (gl : l.stackTraces = false) (gb : ¬ vp_in i0 12 ∨ (¬ vp_in i1 12 ∨ ¬ vp_in i2 12)) : Met l yL_cut wsL_cut ({ frames := 9, cells := 1, slots := 6, locals := 155 }) (va_Pc [.ref o, .int i0, .int i1, .int i2, .ref qL] (ny_pre D [(cI, .int), (cZ, .boolean), (cL, .long)] [(o, .inr (3, [.ref q1, .ref q2, .ref q3, .ref q4])), (q1, .inl (cI, 12, .inl hf)), (q2, .inl (cZ, 12, .inl bf)), (qL, .inl (cL, 1, .inr (.inl lf)))] sz)) (va_Qi (fun (r : Int32) (u : Unit) => r = 1) (fun (u : Unit) t => ny_at D [(cI, .int), (cZ, .boolean), (cL, .long)] (va_A [(o, .inr (3, [.ref q1, .ref q2, .ref q3, .ref q4])), (q1, .inl (cI, 12, .inl hf)), (q2, .inl (cZ, 12, .inl bf)), (qL, .inl (cL, 1, .inr (.inl lf)))] sz) [(o, .inr (3, [.ref q1, .ref q2, .ref q3, .ref q4])), (q1, .inl (cI, 12, .inl hf)), (q2, .inl (cZ, 12, .inl bf)), (qL, .inl (cL, 1, .inr (.inl lf)))] t) (va_A [(o, .inr (3, [.ref q1, .ref q2, .ref q3, .ref q4])), (q1, .inl (cI, 12, .inl hf)), (q2, .inl (cZ, 12, .inl bf)), (qL, .inl (cL, 1, .inr (.inl lf)))] sz)) 1 6 (va_A [(o, .inr (3, [.ref q1, .ref q2, .ref q3, .ref q4])), (q1, .inl (cI, 12, .inl hf)), (q2, .inl (cZ, 12, .inl bf)), (qL, .inl (cL, 1, .inr (.inl lf)))] sz) := by
  refine va_MetW (cc := cL_cut) (maxL := 6) (ret := (some .int)) (by decide) rfl ?_
  intro p e s m args below meth c s₁ B hml hv
  obtain ⟨rfl, hsz, hP, hK, hD0, hE⟩ := hv
  have hx := B.exec
  have hb := B.bytes
  have hr := B.returns
  have hts := atoms_spec (ws := wsL_cut) B.pre
  have hown : s.vm.findClass RL = some m.cls := findClass_of_methodNamed B.named
  have hlocks := B.notSynchronized
  have htab := vx_table (x := yL_cut) B (hts _ List.mem_cons_self)
  subst hsz
  have hD := hD0.self (sz := s.heap.size)
  generalize hAe : va_A [(o, .inr (3, [.ref q1, .ref q2, .ref q3, .ref q4])), (q1, .inl (cI, 12, .inl hf)), (q2, .inl (cZ, 12, .inl bf)), (qL, .inl (cL, 1, .inr (.inl lf)))] s.heap.size = A at hD hE ⊢
  have hA : ∀ q : Nat, s.heap.size ≤ q → A q := fun q h => by rw [← hAe]; exact Or.inr h
  have hS : va_S A s.heap s.heap [] := va_S.rf
  have hl := lv_entry ([.ref o, .int i0, .int i1, .int i2, .ref qL]) (n := 6) (Nat.le_of_ble_eq_true rfl)
  rw [lg_entry_eq]
  generalize (lg_sl ([.ref o, .int i0, .int i1, .int i2, .ref qL]) ++ List.replicate (6 - (lg_sl ([.ref o, .int i0, .int i1, .int i2, .ref qL])).length) Slot.unset).toArray = ls at hl ⊢
  have hl : lv_has ls 6 [(0, .ref o), (1, .int i0), (2, .int i1), (3, .int i2), (4, .ref qL)] := hl
  refine lv_aload hx hb dL_cut_0 (lv_at hl 4 rfl) ?_
  refine lv_iconst (v := 0) hx hb dL_cut_2 (by decide) ?_
  refine lv_aload_n hx hb dL_cut_3 rfl (lv_at hl 0 rfl) ?_
  refine lv_iload_n hx hb dL_cut_4 rfl (lv_at hl 1 rfl) ?_
  refine lv_iload_n hx hb dL_cut_5 rfl (lv_at hl 2 rfl) ?_
  refine lv_iload_n hx hb dL_cut_6 rfl (lv_at hl 3 rfl) ?_
  refine ny_x hS (va_free (wc := [(o, .inr (3, [.ref q1, .ref q2, .ref q3, .ref q4])), (q1, .inl (cI, 12, .inl hf)), (q2, .inl (cZ, 12, .inl bf))]) hD hS hA [0, 1, 2] rfl) (vx_runV (As := [.int i0, .int i1, .int i2]) (rest := [.int 0, .ref qL]) ⟨hx, hb, hml, hown, hts⟩ (c_X1_cut_noP l D cI cZ o q1 q2 q3 q4 s.heap.size hf bf i0 i1 i2 (by assumption) (by assumption)) (cwV 3 hts gL_cut_X1_cut rfl rfl rfl (by decide +kernel) ⟨Nat.le_of_ble_eq_true rfl, Nat.le_of_ble_eq_true rfl⟩) ⟨ny_blind, va_recv hK hP (ci := 3) (q0 := 0) rfl rfl, fun U hU hW => ⟨rfl, ny_preU hE hP hK hD hS hA [0, 1, 2] rfl (by decide) rfl [0, 1] rfl U hU hW⟩⟩ rfl rfl hl.1 rfl (lv_room (Nat.le_of_ble_eq_true rfl)) dL_cut_7 ⟨Nat.le_of_ble_eq_true rfl, Nat.le_of_ble_eq_true rfl⟩) (fun ce q9 H locs hz9 hk9 hS hc9 hv9 hn9 => ?_)
  have hP : va_P D vwCl [(o, .inr (3, [.ref q1, .ref q2, .ref q3, .ref q4])), (q1, .inl (cI, 12, .inl hf)), (q2, .inl (cZ, 12, .inl bf)), (qL, .inl (cL, 1, .inr (.inl lf)))] H := ny_keep hP hk9
  refine vx_catch (own := RL) (name := ny_IO) (E := ny_IO) hown (tableOf []) ⟨0, 11, 14, 13⟩ (tableOf [(0, 11, 18, 39)]) (htab.trans rfl) (fun z hz => absurd hz List.not_mem_nil) (by decide) (by decide) (hts (.classLink RL 13 "java/lang/IndexOutOfBoundsException") (List.mem_of_getElem? (i := 1) rfl)) (va_Nw.use rfl (hE.2.2.2.2.1 _ (List.mem_of_getElem? (i := 0) rfl))) hc9 hv9 hn9 ?_
  refine W.eq (g2 := F0 m 14 ls [.ref q9]) rfl ?_
  refine lv_astore (lv' := [(5, .ref q9), (0, .ref o), (1, .int i0), (2, .int i1), (3, .int i2), (4, .ref qL)]) hx hb dL_cut_14 hl (by decide) rfl (fun ls hl => ?_)
  refine lv_iconst (v := 1) hx hb dL_cut_16 (by decide) ?_
  have hP9 := hP.sub (ws' := [(o, .inr (3, [.ref q1, .ref q2, .ref q3, .ref q4])), (q1, .inl (cI, 12, .inl hf)), (q2, .inl (cZ, 12, .inl bf)), (qL, .inl (cL, 1, .inr (.inl lf)))]) [0, 1, 2, 3] rfl
  have hD9 := hD.sub (ws' := [(o, .inr (3, [.ref q1, .ref q2, .ref q3, .ref q4])), (q1, .inl (cI, 12, .inl hf)), (q2, .inl (cZ, 12, .inl bf)), (qL, .inl (cL, 1, .inr (.inl lf)))]) [0, 1, 2, 3] (by decide) rfl
  refine W.widen (k := 1) (n := 6) (Nat.le_of_ble_eq_true rfl) (Nat.le_of_ble_eq_true rfl) ?_
  exact W.iret (v := 1) hx hb hr (fun t ht hW => ⟨⟨1, (), rfl, (rfl), by rw [ht]; exact hP9, va_K.moved hW.alike hK, hD9⟩, hS.F ht⟩) hS.2.2 dL_cut_17
set_option maxHeartbeats 4000000 in
set_option maxRecDepth 100000 in
theorem c_L_cut_no0 (l : Launch) (D : va_G) (cI : ClassId) (cZ : ClassId) (o : Nat) (q1 : Nat) (q2 : Nat) (q3 : Nat) (q4 : Nat) (sz : Nat) (hf : Nat → Int32) (bf : Nat → Int32) (i0 : Int32) (i1 : Int32) (i2 : Int32) (cL : ClassId) (qL : Nat) (lf : Nat → Int64) (gl : l.stackTraces = false) (gp0 : vp_in i0 12) (gp1 : vp_in i1 12) (gp2 : vp_in i2 12) (g0 : hf i2.toNatClampNeg = 0) : Met l yL_cut wsL_cut ({ frames := 8, cells := 1, slots := 6, locals := 135 }) (va_Pc [.ref o, .int i0, .int i1, .int i2, .ref qL] (ny_pre D [(cI, .int), (cZ, .boolean), (cL, .long)] [(o, .inr (3, [.ref q1, .ref q2, .ref q3, .ref q4])), (q1, .inl (cI, 12, .inl hf)), (q2, .inl (cZ, 12, .inl bf)), (qL, .inl (cL, 1, .inr (.inl lf)))] sz)) (va_Qi (fun (r : Int32) (u : Unit) => r = 2) (fun (u : Unit) t => ny_at D [(cI, .int), (cZ, .boolean), (cL, .long)] (va_A [(o, .inr (3, [.ref q1, .ref q2, .ref q3, .ref q4])), (q1, .inl (cI, 12, .inl hf)), (q2, .inl (cZ, 12, .inl bf)), (qL, .inl (cL, 1, .inr (.inl lf)))] sz) [(o, .inr (3, [.ref q1, .ref q2, .ref q3, .ref q4])), (q1, .inl (cI, 12, .inl hf)), (q2, .inl (cZ, 12, .inl bf)), (qL, .inl (cL, 1, .inr (.inl lf)))] t) (va_A [(o, .inr (3, [.ref q1, .ref q2, .ref q3, .ref q4])), (q1, .inl (cI, 12, .inl hf)), (q2, .inl (cZ, 12, .inl bf)), (qL, .inl (cL, 1, .inr (.inl lf)))] sz)) 1 6 (va_A [(o, .inr (3, [.ref q1, .ref q2, .ref q3, .ref q4])), (q1, .inl (cI, 12, .inl hf)), (q2, .inl (cZ, 12, .inl bf)), (qL, .inl (cL, 1, .inr (.inl lf)))] sz) := by
  refine va_MetW (cc := cL_cut) (maxL := 6) (ret := (some .int)) (by decide) rfl ?_
  intro p e s m args below meth c s₁ B hml hv
  obtain ⟨rfl, hsz, hP, hK, hD0, hE⟩ := hv
  have hx := B.exec
  have hb := B.bytes
  have hr := B.returns
  have hts := atoms_spec (ws := wsL_cut) B.pre
  have hown : s.vm.findClass RL = some m.cls := findClass_of_methodNamed B.named
  have hlocks := B.notSynchronized
  have htab := vx_table (x := yL_cut) B (hts _ List.mem_cons_self)
  subst hsz
  have hD := hD0.self (sz := s.heap.size)
  generalize hAe : va_A [(o, .inr (3, [.ref q1, .ref q2, .ref q3, .ref q4])), (q1, .inl (cI, 12, .inl hf)), (q2, .inl (cZ, 12, .inl bf)), (qL, .inl (cL, 1, .inr (.inl lf)))] s.heap.size = A at hD hE ⊢
  have hA : ∀ q : Nat, s.heap.size ≤ q → A q := fun q h => by rw [← hAe]; exact Or.inr h
  have hS : va_S A s.heap s.heap [] := va_S.rf
  have hl := lv_entry ([.ref o, .int i0, .int i1, .int i2, .ref qL]) (n := 6) (Nat.le_of_ble_eq_true rfl)
  rw [lg_entry_eq]
  generalize (lg_sl ([.ref o, .int i0, .int i1, .int i2, .ref qL]) ++ List.replicate (6 - (lg_sl ([.ref o, .int i0, .int i1, .int i2, .ref qL])).length) Slot.unset).toArray = ls at hl ⊢
  have hl : lv_has ls 6 [(0, .ref o), (1, .int i0), (2, .int i1), (3, .int i2), (4, .ref qL)] := hl
  refine lv_aload hx hb dL_cut_0 (lv_at hl 4 rfl) ?_
  refine lv_iconst (v := 0) hx hb dL_cut_2 (by decide) ?_
  refine lv_aload_n hx hb dL_cut_3 rfl (lv_at hl 0 rfl) ?_
  refine lv_iload_n hx hb dL_cut_4 rfl (lv_at hl 1 rfl) ?_
  refine lv_iload_n hx hb dL_cut_5 rfl (lv_at hl 2 rfl) ?_
  refine lv_iload_n hx hb dL_cut_6 rfl (lv_at hl 3 rfl) ?_
  refine ny_x hS (va_free (wc := [(o, .inr (3, [.ref q1, .ref q2, .ref q3, .ref q4])), (q1, .inl (cI, 12, .inl hf)), (q2, .inl (cZ, 12, .inl bf))]) hD hS hA [0, 1, 2] rfl) (vx_runV (As := [.int i0, .int i1, .int i2]) (rest := [.int 0, .ref qL]) ⟨hx, hb, hml, hown, hts⟩ (c_X1_cut_no0 l D cI cZ o q1 q2 q3 q4 s.heap.size hf bf i0 i1 i2 (by assumption) (by assumption) (by assumption) (by assumption) (by assumption)) (cwV 3 hts gL_cut_X1_cut rfl rfl rfl (by decide +kernel) ⟨Nat.le_of_ble_eq_true rfl, Nat.le_of_ble_eq_true rfl⟩) ⟨ny_blind, va_recv hK hP (ci := 3) (q0 := 0) rfl rfl, fun U hU hW => ⟨rfl, ny_preU hE hP hK hD hS hA [0, 1, 2] rfl (by decide) rfl [0, 1] rfl U hU hW⟩⟩ rfl rfl hl.1 rfl (lv_room (Nat.le_of_ble_eq_true rfl)) dL_cut_7 ⟨Nat.le_of_ble_eq_true rfl, Nat.le_of_ble_eq_true rfl⟩) (fun ce q9 H locs hz9 hk9 hS hc9 hv9 hn9 => ?_)
  have hP : va_P D vwCl [(o, .inr (3, [.ref q1, .ref q2, .ref q3, .ref q4])), (q1, .inl (cI, 12, .inl hf)), (q2, .inl (cZ, 12, .inl bf)), (qL, .inl (cL, 1, .inr (.inl lf)))] H := ny_keep hP hk9
  refine vx_catch (own := RL) (name := ny_AE) (E := ny_AE) hown (tableOf [(0, 11, 14, 13)]) ⟨0, 11, 18, 39⟩ (tableOf []) (htab.trans rfl) (List.forall_mem_cons.mpr ⟨Or.inr ⟨(by decide), ny_IO, (hts (.classLink RL 13 "java/lang/IndexOutOfBoundsException") (List.mem_of_getElem? (i := 1) rfl)), (hE.2.2.2.2.2.1 _ (List.mem_of_getElem? (i := 0) rfl))⟩, (fun z hz => absurd hz List.not_mem_nil)⟩) (by decide) (by decide) (hts (.classLink RL 39 "java/lang/ArithmeticException") (List.mem_of_getElem? (i := 2) rfl)) (va_Nw.use rfl (hE.2.2.2.2.1 _ (List.mem_of_getElem? (i := 2) rfl))) hc9 hv9 hn9 ?_
  refine W.eq (g2 := F0 m 18 ls [.ref q9]) rfl ?_
  refine lv_astore (lv' := [(5, .ref q9), (0, .ref o), (1, .int i0), (2, .int i1), (3, .int i2), (4, .ref qL)]) hx hb dL_cut_18 hl (by decide) rfl (fun ls hl => ?_)
  refine lv_iconst (v := 2) hx hb dL_cut_20 (by decide) ?_
  have hP9 := hP.sub (ws' := [(o, .inr (3, [.ref q1, .ref q2, .ref q3, .ref q4])), (q1, .inl (cI, 12, .inl hf)), (q2, .inl (cZ, 12, .inl bf)), (qL, .inl (cL, 1, .inr (.inl lf)))]) [0, 1, 2, 3] rfl
  have hD9 := hD.sub (ws' := [(o, .inr (3, [.ref q1, .ref q2, .ref q3, .ref q4])), (q1, .inl (cI, 12, .inl hf)), (q2, .inl (cZ, 12, .inl bf)), (qL, .inl (cL, 1, .inr (.inl lf)))]) [0, 1, 2, 3] (by decide) rfl
  refine W.widen (k := 1) (n := 6) (Nat.le_of_ble_eq_true rfl) (Nat.le_of_ble_eq_true rfl) ?_
  exact W.iret (v := 2) hx hb hr (fun t ht hW => ⟨⟨2, (), rfl, (rfl), by rw [ht]; exact hP9, va_K.moved hW.alike hK, hD9⟩, hS.F ht⟩) hS.2.2 dL_cut_21
set_option maxHeartbeats 4000000 in
set_option maxRecDepth 100000 in
theorem c_L_apart (l : Launch) (D : va_G) (cI : ClassId) (cZ : ClassId) (o : Nat) (q1 : Nat) (q2 : Nat) (q3 : Nat) (q4 : Nat) (sz : Nat) (hf : Nat → Int32) (bf : Nat → Int32) (i0 : Int32) (i1 : Int32) (cL : ClassId) (qL : Nat) (lf : Nat → Int64) (gp0 : vp_in i0 12) (gp1 : vp_in i1 12) (g0 : ¬ hf i1.toNatClampNeg = 0) (gH : ny_H hf) : Met l yL_apart wsL_apart ({ frames := 4, cells := 0, slots := 0, locals := 92 }) (va_Pc [.ref o, .int i0, .int i1, .ref qL] (ny_pre D [(cI, .int), (cZ, .boolean), (cL, .long)] [(o, .inr (3, [.ref q1, .ref q2, .ref q3, .ref q4])), (q1, .inl (cI, 12, .inl hf)), (q2, .inl (cZ, 12, .inl bf)), (qL, .inl (cL, 1, .inr (.inl lf)))] sz)) (va_Qi (fun (r : Int32) (u : Unit) => r = 0) (fun (u : Unit) t => ny_at D [(cI, .int), (cZ, .boolean), (cL, .long)] (va_A [(o, .inr (3, [.ref q1, .ref q2, .ref q3, .ref q4])), (q1, .inl (cI, 12, .inl hf)), (q2, .inl (cZ, 12, .inl bf)), (qL, .inl (cL, 1, .inr (.inl lf)))] sz) [(o, .inr (3, [.ref q1, .ref q2, .ref q3, .ref q4])), (q1, .inl (cI, 12, .inl hf)), (q2, .inl (cZ, 12, .inl bf)), (qL, .inl (cL, 1, .inr (.inl (vp_updL lf (0 : Int32).toNatClampNeg ((if (f_re (hf i0.toNatClampNeg) (hf i1.toNatClampNeg)) - (f_cu (hf i0.toNatClampNeg) (hf i1.toNatClampNeg)) < 0 then -1 else if (f_re (hf i0.toNatClampNeg) (hf i1.toNatClampNeg)) - (f_cu (hf i0.toNatClampNeg) (hf i1.toNatClampNeg)) = 0 then 0 else 1 : Int32).toInt64)))))] t) (va_A [(o, .inr (3, [.ref q1, .ref q2, .ref q3, .ref q4])), (q1, .inl (cI, 12, .inl hf)), (q2, .inl (cZ, 12, .inl bf)), (qL, .inl (cL, 1, .inr (.inl lf)))] sz)) 0 0 (va_A [(o, .inr (3, [.ref q1, .ref q2, .ref q3, .ref q4])), (q1, .inl (cI, 12, .inl hf)), (q2, .inl (cZ, 12, .inl bf)), (qL, .inl (cL, 1, .inr (.inl lf)))] sz) := by
  refine va_MetW (cc := cL_apart) (maxL := 5) (ret := (some .int)) (by decide) rfl ?_
  intro p e s m args below meth c s₁ B hml hv
  obtain ⟨rfl, hsz, hP, hK, hD0, hE⟩ := hv
  have hx := B.exec
  have hb := B.bytes
  have hr := B.returns
  have hts := atoms_spec (ws := wsL_apart) B.pre
  have hown : s.vm.findClass RL = some m.cls := findClass_of_methodNamed B.named
  have hlocks := B.notSynchronized
  have htab := vx_table (x := yL_apart) B (hts _ List.mem_cons_self)
  subst hsz
  have hD := hD0.self (sz := s.heap.size)
  generalize hAe : va_A [(o, .inr (3, [.ref q1, .ref q2, .ref q3, .ref q4])), (q1, .inl (cI, 12, .inl hf)), (q2, .inl (cZ, 12, .inl bf)), (qL, .inl (cL, 1, .inr (.inl lf)))] s.heap.size = A at hD hE ⊢
  have hA : ∀ q : Nat, s.heap.size ≤ q → A q := fun q h => by rw [← hAe]; exact Or.inr h
  have hS : va_S A s.heap s.heap [] := va_S.rf
  have hl := lv_entry ([.ref o, .int i0, .int i1, .ref qL]) (n := 5) (Nat.le_of_ble_eq_true rfl)
  rw [lg_entry_eq]
  generalize (lg_sl ([.ref o, .int i0, .int i1, .ref qL]) ++ List.replicate (5 - (lg_sl ([.ref o, .int i0, .int i1, .ref qL])).length) Slot.unset).toArray = ls at hl ⊢
  have hl : lv_has ls 5 [(0, .ref o), (1, .int i0), (2, .int i1), (3, .ref qL)] := hl
  refine lv_aload_n hx hb dL_apart_0 rfl (lv_at hl 3 rfl) ?_
  refine lv_iconst (v := 0) hx hb dL_apart_1 (by decide) ?_
  refine lv_aload_n hx hb dL_apart_2 rfl (lv_at hl 0 rfl) ?_
  refine lv_iload_n hx hb dL_apart_3 rfl (lv_at hl 1 rfl) ?_
  refine lv_iload_n hx hb dL_apart_4 rfl (lv_at hl 2 rfl) ?_
  refine vp_callSi (va_Run.run (va_runV (As := [.int i0, .int i1]) (rest := [.int 0, .ref qL]) ⟨hx, hb, hml, hown, hts⟩ (c_X1_apart l D cI cZ o q1 q2 q3 q4 s.heap.size hf bf i0 i1 (by assumption) (by assumption) (by assumption) (by assumption)) (cwV 2 hts gL_apart_X1_apart rfl rfl rfl (by decide +kernel) ⟨Nat.le_of_ble_eq_true rfl, Nat.le_of_ble_eq_true rfl⟩) ⟨ny_blind, va_recv hK hP (ci := 3) (q0 := 0) rfl rfl, fun U hU hW => ⟨rfl, ny_preU hE hP hK hD hS hA [0, 1, 2] rfl (by decide) rfl [0, 1] rfl U hU hW⟩⟩ rfl rfl hl.1 rfl (lv_room (Nat.le_of_ble_eq_true rfl)) dL_apart_5 ⟨Nat.le_of_ble_eq_true rfl, Nat.le_of_ble_eq_true rfl⟩)) (fun r_5 hw_5 => ?_)
  have hw_5 : r_5 = if (f_re (hf i0.toNatClampNeg) (hf i1.toNatClampNeg)) - (f_cu (hf i0.toNatClampNeg) (hf i1.toNatClampNeg)) < 0 then -1 else if (f_re (hf i0.toNatClampNeg) (hf i1.toNatClampNeg)) - (f_cu (hf i0.toNatClampNeg) (hf i1.toNatClampNeg)) = 0 then 0 else 1 := hw_5
  subst hw_5
  refine lv_i2l hx hb dL_apart_8 rfl ?_
  refine va_last hx hb hK hP hD hS 3 2 rfl rfl (vp_in_iff.mpr (by decide)) dL_apart_9 (fun H locs hP hD hS => ?_)
  have hP : va_P D vwCl [(o, .inr (3, [.ref q1, .ref q2, .ref q3, .ref q4])), (q1, .inl (cI, 12, .inl hf)), (q2, .inl (cZ, 12, .inl bf)), (qL, .inl (cL, 1, .inr (.inl (vp_updL lf (0 : Int32).toNatClampNeg ((if (f_re (hf i0.toNatClampNeg) (hf i1.toNatClampNeg)) - (f_cu (hf i0.toNatClampNeg) (hf i1.toNatClampNeg)) < 0 then -1 else if (f_re (hf i0.toNatClampNeg) (hf i1.toNatClampNeg)) - (f_cu (hf i0.toNatClampNeg) (hf i1.toNatClampNeg)) = 0 then 0 else 1 : Int32).toInt64)))))] H := hP
  have hD : va_D A [(o, .inr (3, [.ref q1, .ref q2, .ref q3, .ref q4])), (q1, .inl (cI, 12, .inl hf)), (q2, .inl (cZ, 12, .inl bf)), (qL, .inl (cL, 1, .inr (.inl (vp_updL lf (0 : Int32).toNatClampNeg ((if (f_re (hf i0.toNatClampNeg) (hf i1.toNatClampNeg)) - (f_cu (hf i0.toNatClampNeg) (hf i1.toNatClampNeg)) < 0 then -1 else if (f_re (hf i0.toNatClampNeg) (hf i1.toNatClampNeg)) - (f_cu (hf i0.toNatClampNeg) (hf i1.toNatClampNeg)) = 0 then 0 else 1 : Int32).toInt64)))))] := hD
  refine lv_goto (tgt := 21) hx hb dL_apart_10 (by decide) ?_
  refine lv_iconst (v := 0) hx hb dL_apart_21 (by decide) ?_
  have hP9 := hP.sub (ws' := [(o, .inr (3, [.ref q1, .ref q2, .ref q3, .ref q4])), (q1, .inl (cI, 12, .inl hf)), (q2, .inl (cZ, 12, .inl bf)), (qL, .inl (cL, 1, .inr (.inl (vp_updL lf (0 : Int32).toNatClampNeg ((if (f_re (hf i0.toNatClampNeg) (hf i1.toNatClampNeg)) - (f_cu (hf i0.toNatClampNeg) (hf i1.toNatClampNeg)) < 0 then -1 else if (f_re (hf i0.toNatClampNeg) (hf i1.toNatClampNeg)) - (f_cu (hf i0.toNatClampNeg) (hf i1.toNatClampNeg)) = 0 then 0 else 1 : Int32).toInt64)))))]) [0, 1, 2, 3] rfl
  have hD9 := hD.sub (ws' := [(o, .inr (3, [.ref q1, .ref q2, .ref q3, .ref q4])), (q1, .inl (cI, 12, .inl hf)), (q2, .inl (cZ, 12, .inl bf)), (qL, .inl (cL, 1, .inr (.inl (vp_updL lf (0 : Int32).toNatClampNeg ((if (f_re (hf i0.toNatClampNeg) (hf i1.toNatClampNeg)) - (f_cu (hf i0.toNatClampNeg) (hf i1.toNatClampNeg)) < 0 then -1 else if (f_re (hf i0.toNatClampNeg) (hf i1.toNatClampNeg)) - (f_cu (hf i0.toNatClampNeg) (hf i1.toNatClampNeg)) = 0 then 0 else 1 : Int32).toInt64)))))]) [0, 1, 2, 3] (by decide) rfl
  exact W.iret (v := 0) hx hb hr (fun t ht hW => ⟨⟨0, (), rfl, (rfl), by rw [ht]; exact hP9, va_K.moved hW.alike hK, hD9⟩, hS.F ht⟩) hS.2.2 dL_apart_22
set_option maxHeartbeats 4000000 in
set_option maxRecDepth 100000 in
theorem c_L_apart_noP (l : Launch) (D : va_G) (cI : ClassId) (cZ : ClassId) (o : Nat) (q1 : Nat) (q2 : Nat) (q3 : Nat) (q4 : Nat) (sz : Nat) (hf : Nat → Int32) (bf : Nat → Int32) (i0 : Int32) (i1 : Int32) (cL : ClassId) (qL : Nat) (lf : Nat → Int64) (gl : l.stackTraces = false) (gb : ¬ vp_in i0 12 ∨ ¬ vp_in i1 12) : Met l yL_apart wsL_apart ({ frames := 9, cells := 1, slots := 6, locals := 155 }) (va_Pc [.ref o, .int i0, .int i1, .ref qL] (ny_pre D [(cI, .int), (cZ, .boolean), (cL, .long)] [(o, .inr (3, [.ref q1, .ref q2, .ref q3, .ref q4])), (q1, .inl (cI, 12, .inl hf)), (q2, .inl (cZ, 12, .inl bf)), (qL, .inl (cL, 1, .inr (.inl lf)))] sz)) (va_Qi (fun (r : Int32) (u : Unit) => r = 1) (fun (u : Unit) t => ny_at D [(cI, .int), (cZ, .boolean), (cL, .long)] (va_A [(o, .inr (3, [.ref q1, .ref q2, .ref q3, .ref q4])), (q1, .inl (cI, 12, .inl hf)), (q2, .inl (cZ, 12, .inl bf)), (qL, .inl (cL, 1, .inr (.inl lf)))] sz) [(o, .inr (3, [.ref q1, .ref q2, .ref q3, .ref q4])), (q1, .inl (cI, 12, .inl hf)), (q2, .inl (cZ, 12, .inl bf)), (qL, .inl (cL, 1, .inr (.inl lf)))] t) (va_A [(o, .inr (3, [.ref q1, .ref q2, .ref q3, .ref q4])), (q1, .inl (cI, 12, .inl hf)), (q2, .inl (cZ, 12, .inl bf)), (qL, .inl (cL, 1, .inr (.inl lf)))] sz)) 1 6 (va_A [(o, .inr (3, [.ref q1, .ref q2, .ref q3, .ref q4])), (q1, .inl (cI, 12, .inl hf)), (q2, .inl (cZ, 12, .inl bf)), (qL, .inl (cL, 1, .inr (.inl lf)))] sz) := by
  refine va_MetW (cc := cL_apart) (maxL := 5) (ret := (some .int)) (by decide) rfl ?_
  intro p e s m args below meth c s₁ B hml hv
  obtain ⟨rfl, hsz, hP, hK, hD0, hE⟩ := hv
  have hx := B.exec
  have hb := B.bytes
  have hr := B.returns
  have hts := atoms_spec (ws := wsL_apart) B.pre
  have hown : s.vm.findClass RL = some m.cls := findClass_of_methodNamed B.named
  have hlocks := B.notSynchronized
  have htab := vx_table (x := yL_apart) B (hts _ List.mem_cons_self)
  subst hsz
  have hD := hD0.self (sz := s.heap.size)
  generalize hAe : va_A [(o, .inr (3, [.ref q1, .ref q2, .ref q3, .ref q4])), (q1, .inl (cI, 12, .inl hf)), (q2, .inl (cZ, 12, .inl bf)), (qL, .inl (cL, 1, .inr (.inl lf)))] s.heap.size = A at hD hE ⊢
  have hA : ∀ q : Nat, s.heap.size ≤ q → A q := fun q h => by rw [← hAe]; exact Or.inr h
  have hS : va_S A s.heap s.heap [] := va_S.rf
  have hl := lv_entry ([.ref o, .int i0, .int i1, .ref qL]) (n := 5) (Nat.le_of_ble_eq_true rfl)
  rw [lg_entry_eq]
  generalize (lg_sl ([.ref o, .int i0, .int i1, .ref qL]) ++ List.replicate (5 - (lg_sl ([.ref o, .int i0, .int i1, .ref qL])).length) Slot.unset).toArray = ls at hl ⊢
  have hl : lv_has ls 5 [(0, .ref o), (1, .int i0), (2, .int i1), (3, .ref qL)] := hl
  refine lv_aload_n hx hb dL_apart_0 rfl (lv_at hl 3 rfl) ?_
  refine lv_iconst (v := 0) hx hb dL_apart_1 (by decide) ?_
  refine lv_aload_n hx hb dL_apart_2 rfl (lv_at hl 0 rfl) ?_
  refine lv_iload_n hx hb dL_apart_3 rfl (lv_at hl 1 rfl) ?_
  refine lv_iload_n hx hb dL_apart_4 rfl (lv_at hl 2 rfl) ?_
  refine ny_x hS (va_free (wc := [(o, .inr (3, [.ref q1, .ref q2, .ref q3, .ref q4])), (q1, .inl (cI, 12, .inl hf)), (q2, .inl (cZ, 12, .inl bf))]) hD hS hA [0, 1, 2] rfl) (vx_runV (As := [.int i0, .int i1]) (rest := [.int 0, .ref qL]) ⟨hx, hb, hml, hown, hts⟩ (c_X1_apart_noP l D cI cZ o q1 q2 q3 q4 s.heap.size hf bf i0 i1 (by assumption) (by assumption)) (cwV 2 hts gL_apart_X1_apart rfl rfl rfl (by decide +kernel) ⟨Nat.le_of_ble_eq_true rfl, Nat.le_of_ble_eq_true rfl⟩) ⟨ny_blind, va_recv hK hP (ci := 3) (q0 := 0) rfl rfl, fun U hU hW => ⟨rfl, ny_preU hE hP hK hD hS hA [0, 1, 2] rfl (by decide) rfl [0, 1] rfl U hU hW⟩⟩ rfl rfl hl.1 rfl (lv_room (Nat.le_of_ble_eq_true rfl)) dL_apart_5 ⟨Nat.le_of_ble_eq_true rfl, Nat.le_of_ble_eq_true rfl⟩) (fun ce q9 H locs hz9 hk9 hS hc9 hv9 hn9 => ?_)
  have hP : va_P D vwCl [(o, .inr (3, [.ref q1, .ref q2, .ref q3, .ref q4])), (q1, .inl (cI, 12, .inl hf)), (q2, .inl (cZ, 12, .inl bf)), (qL, .inl (cL, 1, .inr (.inl lf)))] H := ny_keep hP hk9
  refine vx_catch (own := RL) (name := ny_IO) (E := ny_IO) hown (tableOf []) ⟨0, 10, 13, 13⟩ (tableOf [(0, 10, 17, 39)]) (htab.trans rfl) (fun z hz => absurd hz List.not_mem_nil) (by decide) (by decide) (hts (.classLink RL 13 "java/lang/IndexOutOfBoundsException") (List.mem_of_getElem? (i := 1) rfl)) (va_Nw.use rfl (hE.2.2.2.2.1 _ (List.mem_of_getElem? (i := 0) rfl))) hc9 hv9 hn9 ?_
  refine W.eq (g2 := F0 m 13 ls [.ref q9]) rfl ?_
  refine lv_astore (lv' := [(4, .ref q9), (0, .ref o), (1, .int i0), (2, .int i1), (3, .ref qL)]) hx hb dL_apart_13 hl (by decide) rfl (fun ls hl => ?_)
  refine lv_iconst (v := 1) hx hb dL_apart_15 (by decide) ?_
  have hP9 := hP.sub (ws' := [(o, .inr (3, [.ref q1, .ref q2, .ref q3, .ref q4])), (q1, .inl (cI, 12, .inl hf)), (q2, .inl (cZ, 12, .inl bf)), (qL, .inl (cL, 1, .inr (.inl lf)))]) [0, 1, 2, 3] rfl
  have hD9 := hD.sub (ws' := [(o, .inr (3, [.ref q1, .ref q2, .ref q3, .ref q4])), (q1, .inl (cI, 12, .inl hf)), (q2, .inl (cZ, 12, .inl bf)), (qL, .inl (cL, 1, .inr (.inl lf)))]) [0, 1, 2, 3] (by decide) rfl
  refine W.widen (k := 1) (n := 6) (Nat.le_of_ble_eq_true rfl) (Nat.le_of_ble_eq_true rfl) ?_
  exact W.iret (v := 1) hx hb hr (fun t ht hW => ⟨⟨1, (), rfl, (rfl), by rw [ht]; exact hP9, va_K.moved hW.alike hK, hD9⟩, hS.F ht⟩) hS.2.2 dL_apart_16
set_option maxHeartbeats 4000000 in
set_option maxRecDepth 100000 in
theorem c_L_apart_no0 (l : Launch) (D : va_G) (cI : ClassId) (cZ : ClassId) (o : Nat) (q1 : Nat) (q2 : Nat) (q3 : Nat) (q4 : Nat) (sz : Nat) (hf : Nat → Int32) (bf : Nat → Int32) (i0 : Int32) (i1 : Int32) (cL : ClassId) (qL : Nat) (lf : Nat → Int64) (gl : l.stackTraces = false) (gp0 : vp_in i0 12) (gp1 : vp_in i1 12) (g0 : hf i1.toNatClampNeg = 0) : Met l yL_apart wsL_apart ({ frames := 8, cells := 1, slots := 6, locals := 135 }) (va_Pc [.ref o, .int i0, .int i1, .ref qL] (ny_pre D [(cI, .int), (cZ, .boolean), (cL, .long)] [(o, .inr (3, [.ref q1, .ref q2, .ref q3, .ref q4])), (q1, .inl (cI, 12, .inl hf)), (q2, .inl (cZ, 12, .inl bf)), (qL, .inl (cL, 1, .inr (.inl lf)))] sz)) (va_Qi (fun (r : Int32) (u : Unit) => r = 2) (fun (u : Unit) t => ny_at D [(cI, .int), (cZ, .boolean), (cL, .long)] (va_A [(o, .inr (3, [.ref q1, .ref q2, .ref q3, .ref q4])), (q1, .inl (cI, 12, .inl hf)), (q2, .inl (cZ, 12, .inl bf)), (qL, .inl (cL, 1, .inr (.inl lf)))] sz) [(o, .inr (3, [.ref q1, .ref q2, .ref q3, .ref q4])), (q1, .inl (cI, 12, .inl hf)), (q2, .inl (cZ, 12, .inl bf)), (qL, .inl (cL, 1, .inr (.inl lf)))] t) (va_A [(o, .inr (3, [.ref q1, .ref q2, .ref q3, .ref q4])), (q1, .inl (cI, 12, .inl hf)), (q2, .inl (cZ, 12, .inl bf)), (qL, .inl (cL, 1, .inr (.inl lf)))] sz)) 1 6 (va_A [(o, .inr (3, [.ref q1, .ref q2, .ref q3, .ref q4])), (q1, .inl (cI, 12, .inl hf)), (q2, .inl (cZ, 12, .inl bf)), (qL, .inl (cL, 1, .inr (.inl lf)))] sz) := by
  refine va_MetW (cc := cL_apart) (maxL := 5) (ret := (some .int)) (by decide) rfl ?_
  intro p e s m args below meth c s₁ B hml hv
  obtain ⟨rfl, hsz, hP, hK, hD0, hE⟩ := hv
  have hx := B.exec
  have hb := B.bytes
  have hr := B.returns
  have hts := atoms_spec (ws := wsL_apart) B.pre
  have hown : s.vm.findClass RL = some m.cls := findClass_of_methodNamed B.named
  have hlocks := B.notSynchronized
  have htab := vx_table (x := yL_apart) B (hts _ List.mem_cons_self)
  subst hsz
  have hD := hD0.self (sz := s.heap.size)
  generalize hAe : va_A [(o, .inr (3, [.ref q1, .ref q2, .ref q3, .ref q4])), (q1, .inl (cI, 12, .inl hf)), (q2, .inl (cZ, 12, .inl bf)), (qL, .inl (cL, 1, .inr (.inl lf)))] s.heap.size = A at hD hE ⊢
  have hA : ∀ q : Nat, s.heap.size ≤ q → A q := fun q h => by rw [← hAe]; exact Or.inr h
  have hS : va_S A s.heap s.heap [] := va_S.rf
  have hl := lv_entry ([.ref o, .int i0, .int i1, .ref qL]) (n := 5) (Nat.le_of_ble_eq_true rfl)
  rw [lg_entry_eq]
  generalize (lg_sl ([.ref o, .int i0, .int i1, .ref qL]) ++ List.replicate (5 - (lg_sl ([.ref o, .int i0, .int i1, .ref qL])).length) Slot.unset).toArray = ls at hl ⊢
  have hl : lv_has ls 5 [(0, .ref o), (1, .int i0), (2, .int i1), (3, .ref qL)] := hl
  refine lv_aload_n hx hb dL_apart_0 rfl (lv_at hl 3 rfl) ?_
  refine lv_iconst (v := 0) hx hb dL_apart_1 (by decide) ?_
  refine lv_aload_n hx hb dL_apart_2 rfl (lv_at hl 0 rfl) ?_
  refine lv_iload_n hx hb dL_apart_3 rfl (lv_at hl 1 rfl) ?_
  refine lv_iload_n hx hb dL_apart_4 rfl (lv_at hl 2 rfl) ?_
  refine ny_x hS (va_free (wc := [(o, .inr (3, [.ref q1, .ref q2, .ref q3, .ref q4])), (q1, .inl (cI, 12, .inl hf)), (q2, .inl (cZ, 12, .inl bf))]) hD hS hA [0, 1, 2] rfl) (vx_runV (As := [.int i0, .int i1]) (rest := [.int 0, .ref qL]) ⟨hx, hb, hml, hown, hts⟩ (c_X1_apart_no0 l D cI cZ o q1 q2 q3 q4 s.heap.size hf bf i0 i1 (by assumption) (by assumption) (by assumption) (by assumption)) (cwV 2 hts gL_apart_X1_apart rfl rfl rfl (by decide +kernel) ⟨Nat.le_of_ble_eq_true rfl, Nat.le_of_ble_eq_true rfl⟩) ⟨ny_blind, va_recv hK hP (ci := 3) (q0 := 0) rfl rfl, fun U hU hW => ⟨rfl, ny_preU hE hP hK hD hS hA [0, 1, 2] rfl (by decide) rfl [0, 1] rfl U hU hW⟩⟩ rfl rfl hl.1 rfl (lv_room (Nat.le_of_ble_eq_true rfl)) dL_apart_5 ⟨Nat.le_of_ble_eq_true rfl, Nat.le_of_ble_eq_true rfl⟩) (fun ce q9 H locs hz9 hk9 hS hc9 hv9 hn9 => ?_)
  have hP : va_P D vwCl [(o, .inr (3, [.ref q1, .ref q2, .ref q3, .ref q4])), (q1, .inl (cI, 12, .inl hf)), (q2, .inl (cZ, 12, .inl bf)), (qL, .inl (cL, 1, .inr (.inl lf)))] H := ny_keep hP hk9
  refine vx_catch (own := RL) (name := ny_AE) (E := ny_AE) hown (tableOf [(0, 10, 13, 13)]) ⟨0, 10, 17, 39⟩ (tableOf []) (htab.trans rfl) (List.forall_mem_cons.mpr ⟨Or.inr ⟨(by decide), ny_IO, (hts (.classLink RL 13 "java/lang/IndexOutOfBoundsException") (List.mem_of_getElem? (i := 1) rfl)), (hE.2.2.2.2.2.1 _ (List.mem_of_getElem? (i := 0) rfl))⟩, (fun z hz => absurd hz List.not_mem_nil)⟩) (by decide) (by decide) (hts (.classLink RL 39 "java/lang/ArithmeticException") (List.mem_of_getElem? (i := 2) rfl)) (va_Nw.use rfl (hE.2.2.2.2.1 _ (List.mem_of_getElem? (i := 2) rfl))) hc9 hv9 hn9 ?_
  refine W.eq (g2 := F0 m 17 ls [.ref q9]) rfl ?_
  refine lv_astore (lv' := [(4, .ref q9), (0, .ref o), (1, .int i0), (2, .int i1), (3, .ref qL)]) hx hb dL_apart_17 hl (by decide) rfl (fun ls hl => ?_)
  refine lv_iconst (v := 2) hx hb dL_apart_19 (by decide) ?_
  have hP9 := hP.sub (ws' := [(o, .inr (3, [.ref q1, .ref q2, .ref q3, .ref q4])), (q1, .inl (cI, 12, .inl hf)), (q2, .inl (cZ, 12, .inl bf)), (qL, .inl (cL, 1, .inr (.inl lf)))]) [0, 1, 2, 3] rfl
  have hD9 := hD.sub (ws' := [(o, .inr (3, [.ref q1, .ref q2, .ref q3, .ref q4])), (q1, .inl (cI, 12, .inl hf)), (q2, .inl (cZ, 12, .inl bf)), (qL, .inl (cL, 1, .inr (.inl lf)))]) [0, 1, 2, 3] (by decide) rfl
  refine W.widen (k := 1) (n := 6) (Nat.le_of_ble_eq_true rfl) (Nat.le_of_ble_eq_true rfl) ?_
  exact W.iret (v := 2) hx hb hr (fun t ht hW => ⟨⟨2, (), rfl, (rfl), by rw [ht]; exact hP9, va_K.moved hW.alike hK, hD9⟩, hS.F ht⟩) hS.2.2 dL_apart_20
set_option maxHeartbeats 4000000 in
set_option maxRecDepth 100000 in
theorem c_L_residue (l : Launch) (D : va_G) (cI : ClassId) (cZ : ClassId) (o : Nat) (q1 : Nat) (q2 : Nat) (q3 : Nat) (q4 : Nat) (sz : Nat) (hf : Nat → Int32) (bf : Nat → Int32) (i0 : Int32) (i1 : Int32) (i2 : Int32) (cL : ClassId) (qL : Nat) (lf : Nat → Int64) (gp0 : vp_in i0 12) (gp1 : vp_in i1 12) (gp2 : vp_in i2 12) (g0 : ¬ hf i2.toNatClampNeg = 0) (gH : ny_H hf) : Met l yL_residue wsL_residue ({ frames := 6, cells := 0, slots := 0, locals := 142 }) (va_Pc [.ref o, .int i0, .int i1, .int i2, .ref qL] (ny_pre D [(cI, .int), (cZ, .boolean), (cL, .long)] [(o, .inr (3, [.ref q1, .ref q2, .ref q3, .ref q4])), (q1, .inl (cI, 12, .inl hf)), (q2, .inl (cZ, 12, .inl bf)), (qL, .inl (cL, 1, .inr (.inl lf)))] sz)) (va_Qi (fun (r : Int32) (u : Unit) => r = 0) (fun (u : Unit) t => ny_at D [(cI, .int), (cZ, .boolean), (cL, .long)] (va_A [(o, .inr (3, [.ref q1, .ref q2, .ref q3, .ref q4])), (q1, .inl (cI, 12, .inl hf)), (q2, .inl (cZ, 12, .inl bf)), (qL, .inl (cL, 1, .inr (.inl lf)))] sz) [(o, .inr (3, [.ref q1, .ref q2, .ref q3, .ref q4])), (q1, .inl (cI, 12, .inl (upd hf i0.toNatClampNeg (f_rs ((hf i1.toNatClampNeg).toInt64) (hf i2.toNatClampNeg))))), (q2, .inl (cZ, 12, .inl (upd bf i0.toNatClampNeg 0))), (qL, .inl (cL, 1, .inr (.inl (vp_updL lf (0 : Int32).toNatClampNeg (f_bt (f_rs ((hf i1.toNatClampNeg).toInt64) (hf i2.toNatClampNeg)) 0)))))] t) (va_A [(o, .inr (3, [.ref q1, .ref q2, .ref q3, .ref q4])), (q1, .inl (cI, 12, .inl hf)), (q2, .inl (cZ, 12, .inl bf)), (qL, .inl (cL, 1, .inr (.inl lf)))] sz)) 0 0 (va_A [(o, .inr (3, [.ref q1, .ref q2, .ref q3, .ref q4])), (q1, .inl (cI, 12, .inl hf)), (q2, .inl (cZ, 12, .inl bf)), (qL, .inl (cL, 1, .inr (.inl lf)))] sz) := by
  refine va_MetW (cc := cL_residue) (maxL := 6) (ret := (some .int)) (by decide) rfl ?_
  intro p e s m args below meth c s₁ B hml hv
  obtain ⟨rfl, hsz, hP, hK, hD0, hE⟩ := hv
  have hx := B.exec
  have hb := B.bytes
  have hr := B.returns
  have hts := atoms_spec (ws := wsL_residue) B.pre
  have hown : s.vm.findClass RL = some m.cls := findClass_of_methodNamed B.named
  have hlocks := B.notSynchronized
  have htab := vx_table (x := yL_residue) B (hts _ List.mem_cons_self)
  subst hsz
  have hD := hD0.self (sz := s.heap.size)
  generalize hAe : va_A [(o, .inr (3, [.ref q1, .ref q2, .ref q3, .ref q4])), (q1, .inl (cI, 12, .inl hf)), (q2, .inl (cZ, 12, .inl bf)), (qL, .inl (cL, 1, .inr (.inl lf)))] s.heap.size = A at hD hE ⊢
  have hA : ∀ q : Nat, s.heap.size ≤ q → A q := fun q h => by rw [← hAe]; exact Or.inr h
  have hS : va_S A s.heap s.heap [] := va_S.rf
  have hl := lv_entry ([.ref o, .int i0, .int i1, .int i2, .ref qL]) (n := 6) (Nat.le_of_ble_eq_true rfl)
  rw [lg_entry_eq]
  generalize (lg_sl ([.ref o, .int i0, .int i1, .int i2, .ref qL]) ++ List.replicate (6 - (lg_sl ([.ref o, .int i0, .int i1, .int i2, .ref qL])).length) Slot.unset).toArray = ls at hl ⊢
  have hl : lv_has ls 6 [(0, .ref o), (1, .int i0), (2, .int i1), (3, .int i2), (4, .ref qL)] := hl
  refine lv_aload hx hb dL_residue_0 (lv_at hl 4 rfl) ?_
  refine lv_iconst (v := 0) hx hb dL_residue_2 (by decide) ?_
  refine lv_aload_n hx hb dL_residue_3 rfl (lv_at hl 0 rfl) ?_
  refine lv_iload_n hx hb dL_residue_4 rfl (lv_at hl 1 rfl) ?_
  refine lv_iload_n hx hb dL_residue_5 rfl (lv_at hl 2 rfl) ?_
  refine lv_iload_n hx hb dL_residue_6 rfl (lv_at hl 3 rfl) ?_
  refine ny_l (wc := [(o, .inr (3, [.ref q1, .ref q2, .ref q3, .ref q4])), (q1, .inl (cI, 12, .inl hf)), (q2, .inl (cZ, 12, .inl bf))]) (wr := [(qL, .inl (cL, 1, .inr (.inl lf)))]) hP hD hS hA [0, 1, 2] [3] rfl rfl (by decide) (by decide) (va_runV (As := [.int i0, .int i1, .int i2]) (rest := [.int 0, .ref qL]) ⟨hx, hb, hml, hown, hts⟩ (c_X1_residue l D cI cZ o q1 q2 q3 q4 s.heap.size hf bf i0 i1 i2 (by assumption) (by assumption) (by assumption) (by assumption) (by assumption)) (cwV 3 hts gL_residue_X1_residue rfl rfl rfl (by decide +kernel) ⟨Nat.le_of_ble_eq_true rfl, Nat.le_of_ble_eq_true rfl⟩) ⟨ny_blind, va_recv hK hP (ci := 3) (q0 := 0) rfl rfl, fun U hU hW => ⟨rfl, ny_preU hE hP hK hD hS hA [0, 1, 2] rfl (by decide) rfl [0, 1] rfl U hU hW⟩⟩ rfl rfl hl.1 rfl (lv_room (Nat.le_of_ble_eq_true rfl)) dL_residue_7 ⟨Nat.le_of_ble_eq_true rfl, Nat.le_of_ble_eq_true rfl⟩) (fun r_7 u H locs hw_7 hP hD hS => ?_)
  have hP : va_P D vwCl [(qL, .inl (cL, 1, .inr (.inl lf))), (o, .inr (3, [.ref q1, .ref q2, .ref q3, .ref q4])), (q1, .inl (cI, 12, .inl (upd hf i0.toNatClampNeg (f_rs ((hf i1.toNatClampNeg).toInt64) (hf i2.toNatClampNeg))))), (q2, .inl (cZ, 12, .inl (upd bf i0.toNatClampNeg 0)))] H := hP
  have hD : va_D A [(qL, .inl (cL, 1, .inr (.inl lf))), (o, .inr (3, [.ref q1, .ref q2, .ref q3, .ref q4])), (q1, .inl (cI, 12, .inl (upd hf i0.toNatClampNeg (f_rs ((hf i1.toNatClampNeg).toInt64) (hf i2.toNatClampNeg))))), (q2, .inl (cZ, 12, .inl (upd bf i0.toNatClampNeg 0)))] := hD
  have hw_7 : r_7 = f_bt (f_rs ((hf i1.toNatClampNeg).toInt64) (hf i2.toNatClampNeg)) 0 := hw_7
  subst hw_7
  refine va_last hx hb hK hP hD hS 0 2 rfl rfl (vp_in_iff.mpr (by decide)) dL_residue_10 (fun H locs hP hD hS => ?_)
  have hP : va_P D vwCl [(qL, .inl (cL, 1, .inr (.inl (vp_updL lf (0 : Int32).toNatClampNeg (f_bt (f_rs ((hf i1.toNatClampNeg).toInt64) (hf i2.toNatClampNeg)) 0))))), (o, .inr (3, [.ref q1, .ref q2, .ref q3, .ref q4])), (q1, .inl (cI, 12, .inl (upd hf i0.toNatClampNeg (f_rs ((hf i1.toNatClampNeg).toInt64) (hf i2.toNatClampNeg))))), (q2, .inl (cZ, 12, .inl (upd bf i0.toNatClampNeg 0)))] H := hP
  have hD : va_D A [(qL, .inl (cL, 1, .inr (.inl (vp_updL lf (0 : Int32).toNatClampNeg (f_bt (f_rs ((hf i1.toNatClampNeg).toInt64) (hf i2.toNatClampNeg)) 0))))), (o, .inr (3, [.ref q1, .ref q2, .ref q3, .ref q4])), (q1, .inl (cI, 12, .inl (upd hf i0.toNatClampNeg (f_rs ((hf i1.toNatClampNeg).toInt64) (hf i2.toNatClampNeg))))), (q2, .inl (cZ, 12, .inl (upd bf i0.toNatClampNeg 0)))] := hD
  refine lv_goto (tgt := 22) hx hb dL_residue_11 (by decide) ?_
  refine lv_iconst (v := 0) hx hb dL_residue_22 (by decide) ?_
  have hP9 := hP.sub (ws' := [(o, .inr (3, [.ref q1, .ref q2, .ref q3, .ref q4])), (q1, .inl (cI, 12, .inl (upd hf i0.toNatClampNeg (f_rs ((hf i1.toNatClampNeg).toInt64) (hf i2.toNatClampNeg))))), (q2, .inl (cZ, 12, .inl (upd bf i0.toNatClampNeg 0))), (qL, .inl (cL, 1, .inr (.inl (vp_updL lf (0 : Int32).toNatClampNeg (f_bt (f_rs ((hf i1.toNatClampNeg).toInt64) (hf i2.toNatClampNeg)) 0)))))]) [1, 2, 3, 0] rfl
  have hD9 := hD.sub (ws' := [(o, .inr (3, [.ref q1, .ref q2, .ref q3, .ref q4])), (q1, .inl (cI, 12, .inl (upd hf i0.toNatClampNeg (f_rs ((hf i1.toNatClampNeg).toInt64) (hf i2.toNatClampNeg))))), (q2, .inl (cZ, 12, .inl (upd bf i0.toNatClampNeg 0))), (qL, .inl (cL, 1, .inr (.inl (vp_updL lf (0 : Int32).toNatClampNeg (f_bt (f_rs ((hf i1.toNatClampNeg).toInt64) (hf i2.toNatClampNeg)) 0)))))]) [1, 2, 3, 0] (by decide) rfl
  exact W.iret (v := 0) hx hb hr (fun t ht hW => ⟨⟨0, (), rfl, (rfl), by rw [ht]; exact hP9, va_K.moved hW.alike hK, hD9⟩, hS.F ht⟩) hS.2.2 dL_residue_23
set_option maxHeartbeats 4000000 in
set_option maxRecDepth 100000 in
theorem c_L_residue_noP (l : Launch) (D : va_G) (cI : ClassId) (cZ : ClassId) (o : Nat) (q1 : Nat) (q2 : Nat) (q3 : Nat) (q4 : Nat) (sz : Nat) (hf : Nat → Int32) (bf : Nat → Int32) (i0 : Int32) (i1 : Int32) (i2 : Int32) (cL : ClassId) (qL : Nat) (lf : Nat → Int64) (gl : l.stackTraces = false) (gb : ¬ vp_in i0 12 ∨ (¬ vp_in i1 12 ∨ ¬ vp_in i2 12)) : Met l yL_residue wsL_residue ({ frames := 9, cells := 1, slots := 6, locals := 155 }) (va_Pc [.ref o, .int i0, .int i1, .int i2, .ref qL] (ny_pre D [(cI, .int), (cZ, .boolean), (cL, .long)] [(o, .inr (3, [.ref q1, .ref q2, .ref q3, .ref q4])), (q1, .inl (cI, 12, .inl hf)), (q2, .inl (cZ, 12, .inl bf)), (qL, .inl (cL, 1, .inr (.inl lf)))] sz)) (va_Qi (fun (r : Int32) (u : Unit) => r = 1) (fun (u : Unit) t => ny_at D [(cI, .int), (cZ, .boolean), (cL, .long)] (va_A [(o, .inr (3, [.ref q1, .ref q2, .ref q3, .ref q4])), (q1, .inl (cI, 12, .inl hf)), (q2, .inl (cZ, 12, .inl bf)), (qL, .inl (cL, 1, .inr (.inl lf)))] sz) [(o, .inr (3, [.ref q1, .ref q2, .ref q3, .ref q4])), (q1, .inl (cI, 12, .inl hf)), (q2, .inl (cZ, 12, .inl bf)), (qL, .inl (cL, 1, .inr (.inl lf)))] t) (va_A [(o, .inr (3, [.ref q1, .ref q2, .ref q3, .ref q4])), (q1, .inl (cI, 12, .inl hf)), (q2, .inl (cZ, 12, .inl bf)), (qL, .inl (cL, 1, .inr (.inl lf)))] sz)) 1 6 (va_A [(o, .inr (3, [.ref q1, .ref q2, .ref q3, .ref q4])), (q1, .inl (cI, 12, .inl hf)), (q2, .inl (cZ, 12, .inl bf)), (qL, .inl (cL, 1, .inr (.inl lf)))] sz) := by
  refine va_MetW (cc := cL_residue) (maxL := 6) (ret := (some .int)) (by decide) rfl ?_
  intro p e s m args below meth c s₁ B hml hv
  obtain ⟨rfl, hsz, hP, hK, hD0, hE⟩ := hv
  have hx := B.exec
  have hb := B.bytes
  have hr := B.returns
  have hts := atoms_spec (ws := wsL_residue) B.pre
  have hown : s.vm.findClass RL = some m.cls := findClass_of_methodNamed B.named
  have hlocks := B.notSynchronized
  have htab := vx_table (x := yL_residue) B (hts _ List.mem_cons_self)
  subst hsz
  have hD := hD0.self (sz := s.heap.size)
  generalize hAe : va_A [(o, .inr (3, [.ref q1, .ref q2, .ref q3, .ref q4])), (q1, .inl (cI, 12, .inl hf)), (q2, .inl (cZ, 12, .inl bf)), (qL, .inl (cL, 1, .inr (.inl lf)))] s.heap.size = A at hD hE ⊢
  have hA : ∀ q : Nat, s.heap.size ≤ q → A q := fun q h => by rw [← hAe]; exact Or.inr h
  have hS : va_S A s.heap s.heap [] := va_S.rf
  have hl := lv_entry ([.ref o, .int i0, .int i1, .int i2, .ref qL]) (n := 6) (Nat.le_of_ble_eq_true rfl)
  rw [lg_entry_eq]
  generalize (lg_sl ([.ref o, .int i0, .int i1, .int i2, .ref qL]) ++ List.replicate (6 - (lg_sl ([.ref o, .int i0, .int i1, .int i2, .ref qL])).length) Slot.unset).toArray = ls at hl ⊢
  have hl : lv_has ls 6 [(0, .ref o), (1, .int i0), (2, .int i1), (3, .int i2), (4, .ref qL)] := hl
  refine lv_aload hx hb dL_residue_0 (lv_at hl 4 rfl) ?_
  refine lv_iconst (v := 0) hx hb dL_residue_2 (by decide) ?_
  refine lv_aload_n hx hb dL_residue_3 rfl (lv_at hl 0 rfl) ?_
  refine lv_iload_n hx hb dL_residue_4 rfl (lv_at hl 1 rfl) ?_
  refine lv_iload_n hx hb dL_residue_5 rfl (lv_at hl 2 rfl) ?_
  refine lv_iload_n hx hb dL_residue_6 rfl (lv_at hl 3 rfl) ?_
  refine ny_x hS (va_free (wc := [(o, .inr (3, [.ref q1, .ref q2, .ref q3, .ref q4])), (q1, .inl (cI, 12, .inl hf)), (q2, .inl (cZ, 12, .inl bf))]) hD hS hA [0, 1, 2] rfl) (vx_runV (As := [.int i0, .int i1, .int i2]) (rest := [.int 0, .ref qL]) ⟨hx, hb, hml, hown, hts⟩ (c_X1_residue_noP l D cI cZ o q1 q2 q3 q4 s.heap.size hf bf i0 i1 i2 (by assumption) (by assumption)) (cwV 3 hts gL_residue_X1_residue rfl rfl rfl (by decide +kernel) ⟨Nat.le_of_ble_eq_true rfl, Nat.le_of_ble_eq_true rfl⟩) ⟨ny_blind, va_recv hK hP (ci := 3) (q0 := 0) rfl rfl, fun U hU hW => ⟨rfl, ny_preU hE hP hK hD hS hA [0, 1, 2] rfl (by decide) rfl [0, 1] rfl U hU hW⟩⟩ rfl rfl hl.1 rfl (lv_room (Nat.le_of_ble_eq_true rfl)) dL_residue_7 ⟨Nat.le_of_ble_eq_true rfl, Nat.le_of_ble_eq_true rfl⟩) (fun ce q9 H locs hz9 hk9 hS hc9 hv9 hn9 => ?_)
  have hP : va_P D vwCl [(o, .inr (3, [.ref q1, .ref q2, .ref q3, .ref q4])), (q1, .inl (cI, 12, .inl hf)), (q2, .inl (cZ, 12, .inl bf)), (qL, .inl (cL, 1, .inr (.inl lf)))] H := ny_keep hP hk9
  refine vx_catch (own := RL) (name := ny_IO) (E := ny_IO) hown (tableOf []) ⟨0, 11, 14, 13⟩ (tableOf [(0, 11, 18, 39)]) (htab.trans rfl) (fun z hz => absurd hz List.not_mem_nil) (by decide) (by decide) (hts (.classLink RL 13 "java/lang/IndexOutOfBoundsException") (List.mem_of_getElem? (i := 1) rfl)) (va_Nw.use rfl (hE.2.2.2.2.1 _ (List.mem_of_getElem? (i := 0) rfl))) hc9 hv9 hn9 ?_
  refine W.eq (g2 := F0 m 14 ls [.ref q9]) rfl ?_
  refine lv_astore (lv' := [(5, .ref q9), (0, .ref o), (1, .int i0), (2, .int i1), (3, .int i2), (4, .ref qL)]) hx hb dL_residue_14 hl (by decide) rfl (fun ls hl => ?_)
  refine lv_iconst (v := 1) hx hb dL_residue_16 (by decide) ?_
  have hP9 := hP.sub (ws' := [(o, .inr (3, [.ref q1, .ref q2, .ref q3, .ref q4])), (q1, .inl (cI, 12, .inl hf)), (q2, .inl (cZ, 12, .inl bf)), (qL, .inl (cL, 1, .inr (.inl lf)))]) [0, 1, 2, 3] rfl
  have hD9 := hD.sub (ws' := [(o, .inr (3, [.ref q1, .ref q2, .ref q3, .ref q4])), (q1, .inl (cI, 12, .inl hf)), (q2, .inl (cZ, 12, .inl bf)), (qL, .inl (cL, 1, .inr (.inl lf)))]) [0, 1, 2, 3] (by decide) rfl
  refine W.widen (k := 1) (n := 6) (Nat.le_of_ble_eq_true rfl) (Nat.le_of_ble_eq_true rfl) ?_
  exact W.iret (v := 1) hx hb hr (fun t ht hW => ⟨⟨1, (), rfl, (rfl), by rw [ht]; exact hP9, va_K.moved hW.alike hK, hD9⟩, hS.F ht⟩) hS.2.2 dL_residue_17
set_option maxHeartbeats 4000000 in
set_option maxRecDepth 100000 in
theorem c_L_residue_no0 (l : Launch) (D : va_G) (cI : ClassId) (cZ : ClassId) (o : Nat) (q1 : Nat) (q2 : Nat) (q3 : Nat) (q4 : Nat) (sz : Nat) (hf : Nat → Int32) (bf : Nat → Int32) (i0 : Int32) (i1 : Int32) (i2 : Int32) (cL : ClassId) (qL : Nat) (lf : Nat → Int64) (gl : l.stackTraces = false) (gp0 : vp_in i0 12) (gp1 : vp_in i1 12) (gp2 : vp_in i2 12) (g0 : hf i2.toNatClampNeg = 0) : Met l yL_residue wsL_residue ({ frames := 8, cells := 1, slots := 6, locals := 135 }) (va_Pc [.ref o, .int i0, .int i1, .int i2, .ref qL] (ny_pre D [(cI, .int), (cZ, .boolean), (cL, .long)] [(o, .inr (3, [.ref q1, .ref q2, .ref q3, .ref q4])), (q1, .inl (cI, 12, .inl hf)), (q2, .inl (cZ, 12, .inl bf)), (qL, .inl (cL, 1, .inr (.inl lf)))] sz)) (va_Qi (fun (r : Int32) (u : Unit) => r = 2) (fun (u : Unit) t => ny_at D [(cI, .int), (cZ, .boolean), (cL, .long)] (va_A [(o, .inr (3, [.ref q1, .ref q2, .ref q3, .ref q4])), (q1, .inl (cI, 12, .inl hf)), (q2, .inl (cZ, 12, .inl bf)), (qL, .inl (cL, 1, .inr (.inl lf)))] sz) [(o, .inr (3, [.ref q1, .ref q2, .ref q3, .ref q4])), (q1, .inl (cI, 12, .inl hf)), (q2, .inl (cZ, 12, .inl bf)), (qL, .inl (cL, 1, .inr (.inl lf)))] t) (va_A [(o, .inr (3, [.ref q1, .ref q2, .ref q3, .ref q4])), (q1, .inl (cI, 12, .inl hf)), (q2, .inl (cZ, 12, .inl bf)), (qL, .inl (cL, 1, .inr (.inl lf)))] sz)) 1 6 (va_A [(o, .inr (3, [.ref q1, .ref q2, .ref q3, .ref q4])), (q1, .inl (cI, 12, .inl hf)), (q2, .inl (cZ, 12, .inl bf)), (qL, .inl (cL, 1, .inr (.inl lf)))] sz) := by
  refine va_MetW (cc := cL_residue) (maxL := 6) (ret := (some .int)) (by decide) rfl ?_
  intro p e s m args below meth c s₁ B hml hv
  obtain ⟨rfl, hsz, hP, hK, hD0, hE⟩ := hv
  have hx := B.exec
  have hb := B.bytes
  have hr := B.returns
  have hts := atoms_spec (ws := wsL_residue) B.pre
  have hown : s.vm.findClass RL = some m.cls := findClass_of_methodNamed B.named
  have hlocks := B.notSynchronized
  have htab := vx_table (x := yL_residue) B (hts _ List.mem_cons_self)
  subst hsz
  have hD := hD0.self (sz := s.heap.size)
  generalize hAe : va_A [(o, .inr (3, [.ref q1, .ref q2, .ref q3, .ref q4])), (q1, .inl (cI, 12, .inl hf)), (q2, .inl (cZ, 12, .inl bf)), (qL, .inl (cL, 1, .inr (.inl lf)))] s.heap.size = A at hD hE ⊢
  have hA : ∀ q : Nat, s.heap.size ≤ q → A q := fun q h => by rw [← hAe]; exact Or.inr h
  have hS : va_S A s.heap s.heap [] := va_S.rf
  have hl := lv_entry ([.ref o, .int i0, .int i1, .int i2, .ref qL]) (n := 6) (Nat.le_of_ble_eq_true rfl)
  rw [lg_entry_eq]
  generalize (lg_sl ([.ref o, .int i0, .int i1, .int i2, .ref qL]) ++ List.replicate (6 - (lg_sl ([.ref o, .int i0, .int i1, .int i2, .ref qL])).length) Slot.unset).toArray = ls at hl ⊢
  have hl : lv_has ls 6 [(0, .ref o), (1, .int i0), (2, .int i1), (3, .int i2), (4, .ref qL)] := hl
  refine lv_aload hx hb dL_residue_0 (lv_at hl 4 rfl) ?_
  refine lv_iconst (v := 0) hx hb dL_residue_2 (by decide) ?_
  refine lv_aload_n hx hb dL_residue_3 rfl (lv_at hl 0 rfl) ?_
  refine lv_iload_n hx hb dL_residue_4 rfl (lv_at hl 1 rfl) ?_
  refine lv_iload_n hx hb dL_residue_5 rfl (lv_at hl 2 rfl) ?_
  refine lv_iload_n hx hb dL_residue_6 rfl (lv_at hl 3 rfl) ?_
  refine ny_x hS (va_free (wc := [(o, .inr (3, [.ref q1, .ref q2, .ref q3, .ref q4])), (q1, .inl (cI, 12, .inl hf)), (q2, .inl (cZ, 12, .inl bf))]) hD hS hA [0, 1, 2] rfl) (vx_runV (As := [.int i0, .int i1, .int i2]) (rest := [.int 0, .ref qL]) ⟨hx, hb, hml, hown, hts⟩ (c_X1_residue_no0 l D cI cZ o q1 q2 q3 q4 s.heap.size hf bf i0 i1 i2 (by assumption) (by assumption) (by assumption) (by assumption) (by assumption)) (cwV 3 hts gL_residue_X1_residue rfl rfl rfl (by decide +kernel) ⟨Nat.le_of_ble_eq_true rfl, Nat.le_of_ble_eq_true rfl⟩) ⟨ny_blind, va_recv hK hP (ci := 3) (q0 := 0) rfl rfl, fun U hU hW => ⟨rfl, ny_preU hE hP hK hD hS hA [0, 1, 2] rfl (by decide) rfl [0, 1] rfl U hU hW⟩⟩ rfl rfl hl.1 rfl (lv_room (Nat.le_of_ble_eq_true rfl)) dL_residue_7 ⟨Nat.le_of_ble_eq_true rfl, Nat.le_of_ble_eq_true rfl⟩) (fun ce q9 H locs hz9 hk9 hS hc9 hv9 hn9 => ?_)
  have hP : va_P D vwCl [(o, .inr (3, [.ref q1, .ref q2, .ref q3, .ref q4])), (q1, .inl (cI, 12, .inl hf)), (q2, .inl (cZ, 12, .inl bf)), (qL, .inl (cL, 1, .inr (.inl lf)))] H := ny_keep hP hk9
  refine vx_catch (own := RL) (name := ny_AE) (E := ny_AE) hown (tableOf [(0, 11, 14, 13)]) ⟨0, 11, 18, 39⟩ (tableOf []) (htab.trans rfl) (List.forall_mem_cons.mpr ⟨Or.inr ⟨(by decide), ny_IO, (hts (.classLink RL 13 "java/lang/IndexOutOfBoundsException") (List.mem_of_getElem? (i := 1) rfl)), (hE.2.2.2.2.2.1 _ (List.mem_of_getElem? (i := 0) rfl))⟩, (fun z hz => absurd hz List.not_mem_nil)⟩) (by decide) (by decide) (hts (.classLink RL 39 "java/lang/ArithmeticException") (List.mem_of_getElem? (i := 2) rfl)) (va_Nw.use rfl (hE.2.2.2.2.1 _ (List.mem_of_getElem? (i := 2) rfl))) hc9 hv9 hn9 ?_
  refine W.eq (g2 := F0 m 18 ls [.ref q9]) rfl ?_
  refine lv_astore (lv' := [(5, .ref q9), (0, .ref o), (1, .int i0), (2, .int i1), (3, .int i2), (4, .ref qL)]) hx hb dL_residue_18 hl (by decide) rfl (fun ls hl => ?_)
  refine lv_iconst (v := 2) hx hb dL_residue_20 (by decide) ?_
  have hP9 := hP.sub (ws' := [(o, .inr (3, [.ref q1, .ref q2, .ref q3, .ref q4])), (q1, .inl (cI, 12, .inl hf)), (q2, .inl (cZ, 12, .inl bf)), (qL, .inl (cL, 1, .inr (.inl lf)))]) [0, 1, 2, 3] rfl
  have hD9 := hD.sub (ws' := [(o, .inr (3, [.ref q1, .ref q2, .ref q3, .ref q4])), (q1, .inl (cI, 12, .inl hf)), (q2, .inl (cZ, 12, .inl bf)), (qL, .inl (cL, 1, .inr (.inl lf)))]) [0, 1, 2, 3] (by decide) rfl
  refine W.widen (k := 1) (n := 6) (Nat.le_of_ble_eq_true rfl) (Nat.le_of_ble_eq_true rfl) ?_
  exact W.iret (v := 2) hx hb hr (fun t ht hW => ⟨⟨2, (), rfl, (rfl), by rw [ht]; exact hP9, va_K.moved hW.alike hK, hD9⟩, hS.F ht⟩) hS.2.2 dL_residue_21
set_option maxHeartbeats 4000000 in
set_option maxRecDepth 100000 in
theorem c_L_plus (l : Launch) (D : va_G) (cI : ClassId) (cZ : ClassId) (o : Nat) (q1 : Nat) (q2 : Nat) (q3 : Nat) (q4 : Nat) (sz : Nat) (hf : Nat → Int32) (bf : Nat → Int32) (i0 : Int32) (i1 : Int32) (i2 : Int32) (i3 : Int32) (cL : ClassId) (qL : Nat) (lf : Nat → Int64) (gp0 : vp_in i0 12) (gp1 : vp_in i1 12) (gp2 : vp_in i2 12) (gp3 : vp_in i3 12) (g0 : ¬ hf i3.toNatClampNeg = 0) (gH : ny_H hf) : Met l yL_plus wsL_plus ({ frames := 6, cells := 0, slots := 0, locals := 143 }) (va_Pc [.ref o, .int i0, .int i1, .int i2, .int i3, .ref qL] (ny_pre D [(cI, .int), (cZ, .boolean), (cL, .long)] [(o, .inr (3, [.ref q1, .ref q2, .ref q3, .ref q4])), (q1, .inl (cI, 12, .inl hf)), (q2, .inl (cZ, 12, .inl bf)), (qL, .inl (cL, 1, .inr (.inl lf)))] sz)) (va_Qi (fun (r : Int32) (u : Unit) => r = 0) (fun (u : Unit) t => ny_at D [(cI, .int), (cZ, .boolean), (cL, .long)] (va_A [(o, .inr (3, [.ref q1, .ref q2, .ref q3, .ref q4])), (q1, .inl (cI, 12, .inl hf)), (q2, .inl (cZ, 12, .inl bf)), (qL, .inl (cL, 1, .inr (.inl lf)))] sz) [(o, .inr (3, [.ref q1, .ref q2, .ref q3, .ref q4])), (q1, .inl (cI, 12, .inl (upd hf i0.toNatClampNeg (f_rs ((hf i1.toNatClampNeg + hf i2.toNatClampNeg).toInt64) (hf i3.toNatClampNeg))))), (q2, .inl (cZ, 12, .inl (upd bf i0.toNatClampNeg 0))), (qL, .inl (cL, 1, .inr (.inl (vp_updL lf (0 : Int32).toNatClampNeg (f_bt (f_rs ((hf i1.toNatClampNeg + hf i2.toNatClampNeg).toInt64) (hf i3.toNatClampNeg)) 0)))))] t) (va_A [(o, .inr (3, [.ref q1, .ref q2, .ref q3, .ref q4])), (q1, .inl (cI, 12, .inl hf)), (q2, .inl (cZ, 12, .inl bf)), (qL, .inl (cL, 1, .inr (.inl lf)))] sz)) 0 0 (va_A [(o, .inr (3, [.ref q1, .ref q2, .ref q3, .ref q4])), (q1, .inl (cI, 12, .inl hf)), (q2, .inl (cZ, 12, .inl bf)), (qL, .inl (cL, 1, .inr (.inl lf)))] sz) := by
  refine va_MetW (cc := cL_plus) (maxL := 7) (ret := (some .int)) (by decide) rfl ?_
  intro p e s m args below meth c s₁ B hml hv
  obtain ⟨rfl, hsz, hP, hK, hD0, hE⟩ := hv
  have hx := B.exec
  have hb := B.bytes
  have hr := B.returns
  have hts := atoms_spec (ws := wsL_plus) B.pre
  have hown : s.vm.findClass RL = some m.cls := findClass_of_methodNamed B.named
  have hlocks := B.notSynchronized
  have htab := vx_table (x := yL_plus) B (hts _ List.mem_cons_self)
  subst hsz
  have hD := hD0.self (sz := s.heap.size)
  generalize hAe : va_A [(o, .inr (3, [.ref q1, .ref q2, .ref q3, .ref q4])), (q1, .inl (cI, 12, .inl hf)), (q2, .inl (cZ, 12, .inl bf)), (qL, .inl (cL, 1, .inr (.inl lf)))] s.heap.size = A at hD hE ⊢
  have hA : ∀ q : Nat, s.heap.size ≤ q → A q := fun q h => by rw [← hAe]; exact Or.inr h
  have hS : va_S A s.heap s.heap [] := va_S.rf
  have hl := lv_entry ([.ref o, .int i0, .int i1, .int i2, .int i3, .ref qL]) (n := 7) (Nat.le_of_ble_eq_true rfl)
  rw [lg_entry_eq]
  generalize (lg_sl ([.ref o, .int i0, .int i1, .int i2, .int i3, .ref qL]) ++ List.replicate (7 - (lg_sl ([.ref o, .int i0, .int i1, .int i2, .int i3, .ref qL])).length) Slot.unset).toArray = ls at hl ⊢
  have hl : lv_has ls 7 [(0, .ref o), (1, .int i0), (2, .int i1), (3, .int i2), (4, .int i3), (5, .ref qL)] := hl
  refine lv_aload hx hb dL_plus_0 (lv_at hl 5 rfl) ?_
  refine lv_iconst (v := 0) hx hb dL_plus_2 (by decide) ?_
  refine lv_aload_n hx hb dL_plus_3 rfl (lv_at hl 0 rfl) ?_
  refine lv_iload_n hx hb dL_plus_4 rfl (lv_at hl 1 rfl) ?_
  refine lv_iload_n hx hb dL_plus_5 rfl (lv_at hl 2 rfl) ?_
  refine lv_iload_n hx hb dL_plus_6 rfl (lv_at hl 3 rfl) ?_
  refine lv_iload hx hb dL_plus_7 (lv_at hl 4 rfl) ?_
  refine ny_l (wc := [(o, .inr (3, [.ref q1, .ref q2, .ref q3, .ref q4])), (q1, .inl (cI, 12, .inl hf)), (q2, .inl (cZ, 12, .inl bf))]) (wr := [(qL, .inl (cL, 1, .inr (.inl lf)))]) hP hD hS hA [0, 1, 2] [3] rfl rfl (by decide) (by decide) (va_runV (As := [.int i0, .int i1, .int i2, .int i3]) (rest := [.int 0, .ref qL]) ⟨hx, hb, hml, hown, hts⟩ (c_X1_plus l D cI cZ o q1 q2 q3 q4 s.heap.size hf bf i0 i1 i2 i3 (by assumption) (by assumption) (by assumption) (by assumption) (by assumption) (by assumption)) (cwV 4 hts gL_plus_X1_plus rfl rfl rfl (by decide +kernel) ⟨Nat.le_of_ble_eq_true rfl, Nat.le_of_ble_eq_true rfl⟩) ⟨ny_blind, va_recv hK hP (ci := 3) (q0 := 0) rfl rfl, fun U hU hW => ⟨rfl, ny_preU hE hP hK hD hS hA [0, 1, 2] rfl (by decide) rfl [0, 1] rfl U hU hW⟩⟩ rfl rfl hl.1 rfl (lv_room (Nat.le_of_ble_eq_true rfl)) dL_plus_9 ⟨Nat.le_of_ble_eq_true rfl, Nat.le_of_ble_eq_true rfl⟩) (fun r_9 u H locs hw_9 hP hD hS => ?_)
  have hP : va_P D vwCl [(qL, .inl (cL, 1, .inr (.inl lf))), (o, .inr (3, [.ref q1, .ref q2, .ref q3, .ref q4])), (q1, .inl (cI, 12, .inl (upd hf i0.toNatClampNeg (f_rs ((hf i1.toNatClampNeg + hf i2.toNatClampNeg).toInt64) (hf i3.toNatClampNeg))))), (q2, .inl (cZ, 12, .inl (upd bf i0.toNatClampNeg 0)))] H := hP
  have hD : va_D A [(qL, .inl (cL, 1, .inr (.inl lf))), (o, .inr (3, [.ref q1, .ref q2, .ref q3, .ref q4])), (q1, .inl (cI, 12, .inl (upd hf i0.toNatClampNeg (f_rs ((hf i1.toNatClampNeg + hf i2.toNatClampNeg).toInt64) (hf i3.toNatClampNeg))))), (q2, .inl (cZ, 12, .inl (upd bf i0.toNatClampNeg 0)))] := hD
  have hw_9 : r_9 = f_bt (f_rs ((hf i1.toNatClampNeg + hf i2.toNatClampNeg).toInt64) (hf i3.toNatClampNeg)) 0 := hw_9
  subst hw_9
  refine va_last hx hb hK hP hD hS 0 2 rfl rfl (vp_in_iff.mpr (by decide)) dL_plus_12 (fun H locs hP hD hS => ?_)
  have hP : va_P D vwCl [(qL, .inl (cL, 1, .inr (.inl (vp_updL lf (0 : Int32).toNatClampNeg (f_bt (f_rs ((hf i1.toNatClampNeg + hf i2.toNatClampNeg).toInt64) (hf i3.toNatClampNeg)) 0))))), (o, .inr (3, [.ref q1, .ref q2, .ref q3, .ref q4])), (q1, .inl (cI, 12, .inl (upd hf i0.toNatClampNeg (f_rs ((hf i1.toNatClampNeg + hf i2.toNatClampNeg).toInt64) (hf i3.toNatClampNeg))))), (q2, .inl (cZ, 12, .inl (upd bf i0.toNatClampNeg 0)))] H := hP
  have hD : va_D A [(qL, .inl (cL, 1, .inr (.inl (vp_updL lf (0 : Int32).toNatClampNeg (f_bt (f_rs ((hf i1.toNatClampNeg + hf i2.toNatClampNeg).toInt64) (hf i3.toNatClampNeg)) 0))))), (o, .inr (3, [.ref q1, .ref q2, .ref q3, .ref q4])), (q1, .inl (cI, 12, .inl (upd hf i0.toNatClampNeg (f_rs ((hf i1.toNatClampNeg + hf i2.toNatClampNeg).toInt64) (hf i3.toNatClampNeg))))), (q2, .inl (cZ, 12, .inl (upd bf i0.toNatClampNeg 0)))] := hD
  refine lv_goto (tgt := 24) hx hb dL_plus_13 (by decide) ?_
  refine lv_iconst (v := 0) hx hb dL_plus_24 (by decide) ?_
  have hP9 := hP.sub (ws' := [(o, .inr (3, [.ref q1, .ref q2, .ref q3, .ref q4])), (q1, .inl (cI, 12, .inl (upd hf i0.toNatClampNeg (f_rs ((hf i1.toNatClampNeg + hf i2.toNatClampNeg).toInt64) (hf i3.toNatClampNeg))))), (q2, .inl (cZ, 12, .inl (upd bf i0.toNatClampNeg 0))), (qL, .inl (cL, 1, .inr (.inl (vp_updL lf (0 : Int32).toNatClampNeg (f_bt (f_rs ((hf i1.toNatClampNeg + hf i2.toNatClampNeg).toInt64) (hf i3.toNatClampNeg)) 0)))))]) [1, 2, 3, 0] rfl
  have hD9 := hD.sub (ws' := [(o, .inr (3, [.ref q1, .ref q2, .ref q3, .ref q4])), (q1, .inl (cI, 12, .inl (upd hf i0.toNatClampNeg (f_rs ((hf i1.toNatClampNeg + hf i2.toNatClampNeg).toInt64) (hf i3.toNatClampNeg))))), (q2, .inl (cZ, 12, .inl (upd bf i0.toNatClampNeg 0))), (qL, .inl (cL, 1, .inr (.inl (vp_updL lf (0 : Int32).toNatClampNeg (f_bt (f_rs ((hf i1.toNatClampNeg + hf i2.toNatClampNeg).toInt64) (hf i3.toNatClampNeg)) 0)))))]) [1, 2, 3, 0] (by decide) rfl
  exact W.iret (v := 0) hx hb hr (fun t ht hW => ⟨⟨0, (), rfl, (rfl), by rw [ht]; exact hP9, va_K.moved hW.alike hK, hD9⟩, hS.F ht⟩) hS.2.2 dL_plus_25
set_option maxHeartbeats 4000000 in
set_option maxRecDepth 100000 in
theorem c_L_plus_noP (l : Launch) (D : va_G) (cI : ClassId) (cZ : ClassId) (o : Nat) (q1 : Nat) (q2 : Nat) (q3 : Nat) (q4 : Nat) (sz : Nat) (hf : Nat → Int32) (bf : Nat → Int32) (i0 : Int32) (i1 : Int32) (i2 : Int32) (i3 : Int32) (cL : ClassId) (qL : Nat) (lf : Nat → Int64) (gl : l.stackTraces = false) (gb : ¬ vp_in i0 12 ∨ (¬ vp_in i2 12 ∨ (¬ vp_in i1 12 ∨ ¬ vp_in i3 12))) : Met l yL_plus wsL_plus ({ frames := 9, cells := 1, slots := 6, locals := 156 }) (va_Pc [.ref o, .int i0, .int i1, .int i2, .int i3, .ref qL] (ny_pre D [(cI, .int), (cZ, .boolean), (cL, .long)] [(o, .inr (3, [.ref q1, .ref q2, .ref q3, .ref q4])), (q1, .inl (cI, 12, .inl hf)), (q2, .inl (cZ, 12, .inl bf)), (qL, .inl (cL, 1, .inr (.inl lf)))] sz)) (va_Qi (fun (r : Int32) (u : Unit) => r = 1) (fun (u : Unit) t => ny_at D [(cI, .int), (cZ, .boolean), (cL, .long)] (va_A [(o, .inr (3, [.ref q1, .ref q2, .ref q3, .ref q4])), (q1, .inl (cI, 12, .inl hf)), (q2, .inl (cZ, 12, .inl bf)), (qL, .inl (cL, 1, .inr (.inl lf)))] sz) [(o, .inr (3, [.ref q1, .ref q2, .ref q3, .ref q4])), (q1, .inl (cI, 12, .inl hf)), (q2, .inl (cZ, 12, .inl bf)), (qL, .inl (cL, 1, .inr (.inl lf)))] t) (va_A [(o, .inr (3, [.ref q1, .ref q2, .ref q3, .ref q4])), (q1, .inl (cI, 12, .inl hf)), (q2, .inl (cZ, 12, .inl bf)), (qL, .inl (cL, 1, .inr (.inl lf)))] sz)) 1 6 (va_A [(o, .inr (3, [.ref q1, .ref q2, .ref q3, .ref q4])), (q1, .inl (cI, 12, .inl hf)), (q2, .inl (cZ, 12, .inl bf)), (qL, .inl (cL, 1, .inr (.inl lf)))] sz) := by
  refine va_MetW (cc := cL_plus) (maxL := 7) (ret := (some .int)) (by decide) rfl ?_
  intro p e s m args below meth c s₁ B hml hv
  obtain ⟨rfl, hsz, hP, hK, hD0, hE⟩ := hv
  have hx := B.exec
  have hb := B.bytes
  have hr := B.returns
  have hts := atoms_spec (ws := wsL_plus) B.pre
  have hown : s.vm.findClass RL = some m.cls := findClass_of_methodNamed B.named
  have hlocks := B.notSynchronized
  have htab := vx_table (x := yL_plus) B (hts _ List.mem_cons_self)
  subst hsz
  have hD := hD0.self (sz := s.heap.size)
  generalize hAe : va_A [(o, .inr (3, [.ref q1, .ref q2, .ref q3, .ref q4])), (q1, .inl (cI, 12, .inl hf)), (q2, .inl (cZ, 12, .inl bf)), (qL, .inl (cL, 1, .inr (.inl lf)))] s.heap.size = A at hD hE ⊢
  have hA : ∀ q : Nat, s.heap.size ≤ q → A q := fun q h => by rw [← hAe]; exact Or.inr h
  have hS : va_S A s.heap s.heap [] := va_S.rf
  have hl := lv_entry ([.ref o, .int i0, .int i1, .int i2, .int i3, .ref qL]) (n := 7) (Nat.le_of_ble_eq_true rfl)
  rw [lg_entry_eq]
  generalize (lg_sl ([.ref o, .int i0, .int i1, .int i2, .int i3, .ref qL]) ++ List.replicate (7 - (lg_sl ([.ref o, .int i0, .int i1, .int i2, .int i3, .ref qL])).length) Slot.unset).toArray = ls at hl ⊢
  have hl : lv_has ls 7 [(0, .ref o), (1, .int i0), (2, .int i1), (3, .int i2), (4, .int i3), (5, .ref qL)] := hl
  refine lv_aload hx hb dL_plus_0 (lv_at hl 5 rfl) ?_
  refine lv_iconst (v := 0) hx hb dL_plus_2 (by decide) ?_
  refine lv_aload_n hx hb dL_plus_3 rfl (lv_at hl 0 rfl) ?_
  refine lv_iload_n hx hb dL_plus_4 rfl (lv_at hl 1 rfl) ?_
  refine lv_iload_n hx hb dL_plus_5 rfl (lv_at hl 2 rfl) ?_
  refine lv_iload_n hx hb dL_plus_6 rfl (lv_at hl 3 rfl) ?_
  refine lv_iload hx hb dL_plus_7 (lv_at hl 4 rfl) ?_
  refine ny_x hS (va_free (wc := [(o, .inr (3, [.ref q1, .ref q2, .ref q3, .ref q4])), (q1, .inl (cI, 12, .inl hf)), (q2, .inl (cZ, 12, .inl bf))]) hD hS hA [0, 1, 2] rfl) (vx_runV (As := [.int i0, .int i1, .int i2, .int i3]) (rest := [.int 0, .ref qL]) ⟨hx, hb, hml, hown, hts⟩ (c_X1_plus_noP l D cI cZ o q1 q2 q3 q4 s.heap.size hf bf i0 i1 i2 i3 (by assumption) (by assumption)) (cwV 4 hts gL_plus_X1_plus rfl rfl rfl (by decide +kernel) ⟨Nat.le_of_ble_eq_true rfl, Nat.le_of_ble_eq_true rfl⟩) ⟨ny_blind, va_recv hK hP (ci := 3) (q0 := 0) rfl rfl, fun U hU hW => ⟨rfl, ny_preU hE hP hK hD hS hA [0, 1, 2] rfl (by decide) rfl [0, 1] rfl U hU hW⟩⟩ rfl rfl hl.1 rfl (lv_room (Nat.le_of_ble_eq_true rfl)) dL_plus_9 ⟨Nat.le_of_ble_eq_true rfl, Nat.le_of_ble_eq_true rfl⟩) (fun ce q9 H locs hz9 hk9 hS hc9 hv9 hn9 => ?_)
  have hP : va_P D vwCl [(o, .inr (3, [.ref q1, .ref q2, .ref q3, .ref q4])), (q1, .inl (cI, 12, .inl hf)), (q2, .inl (cZ, 12, .inl bf)), (qL, .inl (cL, 1, .inr (.inl lf)))] H := ny_keep hP hk9
  refine vx_catch (own := RL) (name := ny_IO) (E := ny_IO) hown (tableOf []) ⟨0, 13, 16, 13⟩ (tableOf [(0, 13, 20, 39)]) (htab.trans rfl) (fun z hz => absurd hz List.not_mem_nil) (by decide) (by decide) (hts (.classLink RL 13 "java/lang/IndexOutOfBoundsException") (List.mem_of_getElem? (i := 1) rfl)) (va_Nw.use rfl (hE.2.2.2.2.1 _ (List.mem_of_getElem? (i := 0) rfl))) hc9 hv9 hn9 ?_
  refine W.eq (g2 := F0 m 16 ls [.ref q9]) rfl ?_
  refine lv_astore (lv' := [(6, .ref q9), (0, .ref o), (1, .int i0), (2, .int i1), (3, .int i2), (4, .int i3), (5, .ref qL)]) hx hb dL_plus_16 hl (by decide) rfl (fun ls hl => ?_)
  refine lv_iconst (v := 1) hx hb dL_plus_18 (by decide) ?_
  have hP9 := hP.sub (ws' := [(o, .inr (3, [.ref q1, .ref q2, .ref q3, .ref q4])), (q1, .inl (cI, 12, .inl hf)), (q2, .inl (cZ, 12, .inl bf)), (qL, .inl (cL, 1, .inr (.inl lf)))]) [0, 1, 2, 3] rfl
  have hD9 := hD.sub (ws' := [(o, .inr (3, [.ref q1, .ref q2, .ref q3, .ref q4])), (q1, .inl (cI, 12, .inl hf)), (q2, .inl (cZ, 12, .inl bf)), (qL, .inl (cL, 1, .inr (.inl lf)))]) [0, 1, 2, 3] (by decide) rfl
  refine W.widen (k := 1) (n := 6) (Nat.le_of_ble_eq_true rfl) (Nat.le_of_ble_eq_true rfl) ?_
  exact W.iret (v := 1) hx hb hr (fun t ht hW => ⟨⟨1, (), rfl, (rfl), by rw [ht]; exact hP9, va_K.moved hW.alike hK, hD9⟩, hS.F ht⟩) hS.2.2 dL_plus_19
set_option maxHeartbeats 4000000 in
set_option maxRecDepth 100000 in
theorem c_L_plus_no0 (l : Launch) (D : va_G) (cI : ClassId) (cZ : ClassId) (o : Nat) (q1 : Nat) (q2 : Nat) (q3 : Nat) (q4 : Nat) (sz : Nat) (hf : Nat → Int32) (bf : Nat → Int32) (i0 : Int32) (i1 : Int32) (i2 : Int32) (i3 : Int32) (cL : ClassId) (qL : Nat) (lf : Nat → Int64) (gl : l.stackTraces = false) (gp0 : vp_in i0 12) (gp1 : vp_in i1 12) (gp2 : vp_in i2 12) (gp3 : vp_in i3 12) (g0 : hf i3.toNatClampNeg = 0) : Met l yL_plus wsL_plus ({ frames := 8, cells := 1, slots := 6, locals := 136 }) (va_Pc [.ref o, .int i0, .int i1, .int i2, .int i3, .ref qL] (ny_pre D [(cI, .int), (cZ, .boolean), (cL, .long)] [(o, .inr (3, [.ref q1, .ref q2, .ref q3, .ref q4])), (q1, .inl (cI, 12, .inl hf)), (q2, .inl (cZ, 12, .inl bf)), (qL, .inl (cL, 1, .inr (.inl lf)))] sz)) (va_Qi (fun (r : Int32) (u : Unit) => r = 2) (fun (u : Unit) t => ny_at D [(cI, .int), (cZ, .boolean), (cL, .long)] (va_A [(o, .inr (3, [.ref q1, .ref q2, .ref q3, .ref q4])), (q1, .inl (cI, 12, .inl hf)), (q2, .inl (cZ, 12, .inl bf)), (qL, .inl (cL, 1, .inr (.inl lf)))] sz) [(o, .inr (3, [.ref q1, .ref q2, .ref q3, .ref q4])), (q1, .inl (cI, 12, .inl hf)), (q2, .inl (cZ, 12, .inl bf)), (qL, .inl (cL, 1, .inr (.inl lf)))] t) (va_A [(o, .inr (3, [.ref q1, .ref q2, .ref q3, .ref q4])), (q1, .inl (cI, 12, .inl hf)), (q2, .inl (cZ, 12, .inl bf)), (qL, .inl (cL, 1, .inr (.inl lf)))] sz)) 1 6 (va_A [(o, .inr (3, [.ref q1, .ref q2, .ref q3, .ref q4])), (q1, .inl (cI, 12, .inl hf)), (q2, .inl (cZ, 12, .inl bf)), (qL, .inl (cL, 1, .inr (.inl lf)))] sz) := by
  refine va_MetW (cc := cL_plus) (maxL := 7) (ret := (some .int)) (by decide) rfl ?_
  intro p e s m args below meth c s₁ B hml hv
  obtain ⟨rfl, hsz, hP, hK, hD0, hE⟩ := hv
  have hx := B.exec
  have hb := B.bytes
  have hr := B.returns
  have hts := atoms_spec (ws := wsL_plus) B.pre
  have hown : s.vm.findClass RL = some m.cls := findClass_of_methodNamed B.named
  have hlocks := B.notSynchronized
  have htab := vx_table (x := yL_plus) B (hts _ List.mem_cons_self)
  subst hsz
  have hD := hD0.self (sz := s.heap.size)
  generalize hAe : va_A [(o, .inr (3, [.ref q1, .ref q2, .ref q3, .ref q4])), (q1, .inl (cI, 12, .inl hf)), (q2, .inl (cZ, 12, .inl bf)), (qL, .inl (cL, 1, .inr (.inl lf)))] s.heap.size = A at hD hE ⊢
  have hA : ∀ q : Nat, s.heap.size ≤ q → A q := fun q h => by rw [← hAe]; exact Or.inr h
  have hS : va_S A s.heap s.heap [] := va_S.rf
  have hl := lv_entry ([.ref o, .int i0, .int i1, .int i2, .int i3, .ref qL]) (n := 7) (Nat.le_of_ble_eq_true rfl)
  rw [lg_entry_eq]
  generalize (lg_sl ([.ref o, .int i0, .int i1, .int i2, .int i3, .ref qL]) ++ List.replicate (7 - (lg_sl ([.ref o, .int i0, .int i1, .int i2, .int i3, .ref qL])).length) Slot.unset).toArray = ls at hl ⊢
  have hl : lv_has ls 7 [(0, .ref o), (1, .int i0), (2, .int i1), (3, .int i2), (4, .int i3), (5, .ref qL)] := hl
  refine lv_aload hx hb dL_plus_0 (lv_at hl 5 rfl) ?_
  refine lv_iconst (v := 0) hx hb dL_plus_2 (by decide) ?_
  refine lv_aload_n hx hb dL_plus_3 rfl (lv_at hl 0 rfl) ?_
  refine lv_iload_n hx hb dL_plus_4 rfl (lv_at hl 1 rfl) ?_
  refine lv_iload_n hx hb dL_plus_5 rfl (lv_at hl 2 rfl) ?_
  refine lv_iload_n hx hb dL_plus_6 rfl (lv_at hl 3 rfl) ?_
  refine lv_iload hx hb dL_plus_7 (lv_at hl 4 rfl) ?_
  refine ny_x hS (va_free (wc := [(o, .inr (3, [.ref q1, .ref q2, .ref q3, .ref q4])), (q1, .inl (cI, 12, .inl hf)), (q2, .inl (cZ, 12, .inl bf))]) hD hS hA [0, 1, 2] rfl) (vx_runV (As := [.int i0, .int i1, .int i2, .int i3]) (rest := [.int 0, .ref qL]) ⟨hx, hb, hml, hown, hts⟩ (c_X1_plus_no0 l D cI cZ o q1 q2 q3 q4 s.heap.size hf bf i0 i1 i2 i3 (by assumption) (by assumption) (by assumption) (by assumption) (by assumption) (by assumption)) (cwV 4 hts gL_plus_X1_plus rfl rfl rfl (by decide +kernel) ⟨Nat.le_of_ble_eq_true rfl, Nat.le_of_ble_eq_true rfl⟩) ⟨ny_blind, va_recv hK hP (ci := 3) (q0 := 0) rfl rfl, fun U hU hW => ⟨rfl, ny_preU hE hP hK hD hS hA [0, 1, 2] rfl (by decide) rfl [0, 1] rfl U hU hW⟩⟩ rfl rfl hl.1 rfl (lv_room (Nat.le_of_ble_eq_true rfl)) dL_plus_9 ⟨Nat.le_of_ble_eq_true rfl, Nat.le_of_ble_eq_true rfl⟩) (fun ce q9 H locs hz9 hk9 hS hc9 hv9 hn9 => ?_)
  have hP : va_P D vwCl [(o, .inr (3, [.ref q1, .ref q2, .ref q3, .ref q4])), (q1, .inl (cI, 12, .inl hf)), (q2, .inl (cZ, 12, .inl bf)), (qL, .inl (cL, 1, .inr (.inl lf)))] H := ny_keep hP hk9
  refine vx_catch (own := RL) (name := ny_AE) (E := ny_AE) hown (tableOf [(0, 13, 16, 13)]) ⟨0, 13, 20, 39⟩ (tableOf []) (htab.trans rfl) (List.forall_mem_cons.mpr ⟨Or.inr ⟨(by decide), ny_IO, (hts (.classLink RL 13 "java/lang/IndexOutOfBoundsException") (List.mem_of_getElem? (i := 1) rfl)), (hE.2.2.2.2.2.1 _ (List.mem_of_getElem? (i := 0) rfl))⟩, (fun z hz => absurd hz List.not_mem_nil)⟩) (by decide) (by decide) (hts (.classLink RL 39 "java/lang/ArithmeticException") (List.mem_of_getElem? (i := 2) rfl)) (va_Nw.use rfl (hE.2.2.2.2.1 _ (List.mem_of_getElem? (i := 2) rfl))) hc9 hv9 hn9 ?_
  refine W.eq (g2 := F0 m 20 ls [.ref q9]) rfl ?_
  refine lv_astore (lv' := [(6, .ref q9), (0, .ref o), (1, .int i0), (2, .int i1), (3, .int i2), (4, .int i3), (5, .ref qL)]) hx hb dL_plus_20 hl (by decide) rfl (fun ls hl => ?_)
  refine lv_iconst (v := 2) hx hb dL_plus_22 (by decide) ?_
  have hP9 := hP.sub (ws' := [(o, .inr (3, [.ref q1, .ref q2, .ref q3, .ref q4])), (q1, .inl (cI, 12, .inl hf)), (q2, .inl (cZ, 12, .inl bf)), (qL, .inl (cL, 1, .inr (.inl lf)))]) [0, 1, 2, 3] rfl
  have hD9 := hD.sub (ws' := [(o, .inr (3, [.ref q1, .ref q2, .ref q3, .ref q4])), (q1, .inl (cI, 12, .inl hf)), (q2, .inl (cZ, 12, .inl bf)), (qL, .inl (cL, 1, .inr (.inl lf)))]) [0, 1, 2, 3] (by decide) rfl
  refine W.widen (k := 1) (n := 6) (Nat.le_of_ble_eq_true rfl) (Nat.le_of_ble_eq_true rfl) ?_
  exact W.iret (v := 2) hx hb hr (fun t ht hW => ⟨⟨2, (), rfl, (rfl), by rw [ht]; exact hP9, va_K.moved hW.alike hK, hD9⟩, hS.F ht⟩) hS.2.2 dL_plus_23
set_option maxHeartbeats 4000000 in
set_option maxRecDepth 100000 in
theorem c_L_minus (l : Launch) (D : va_G) (cI : ClassId) (cZ : ClassId) (o : Nat) (q1 : Nat) (q2 : Nat) (q3 : Nat) (q4 : Nat) (sz : Nat) (hf : Nat → Int32) (bf : Nat → Int32) (i0 : Int32) (i1 : Int32) (i2 : Int32) (i3 : Int32) (cL : ClassId) (qL : Nat) (lf : Nat → Int64) (gp0 : vp_in i0 12) (gp1 : vp_in i1 12) (gp2 : vp_in i2 12) (gp3 : vp_in i3 12) (g0 : ¬ hf i3.toNatClampNeg = 0) (gH : ny_H hf) : Met l yL_minus wsL_minus ({ frames := 6, cells := 0, slots := 0, locals := 143 }) (va_Pc [.ref o, .int i0, .int i1, .int i2, .int i3, .ref qL] (ny_pre D [(cI, .int), (cZ, .boolean), (cL, .long)] [(o, .inr (3, [.ref q1, .ref q2, .ref q3, .ref q4])), (q1, .inl (cI, 12, .inl hf)), (q2, .inl (cZ, 12, .inl bf)), (qL, .inl (cL, 1, .inr (.inl lf)))] sz)) (va_Qi (fun (r : Int32) (u : Unit) => r = 0) (fun (u : Unit) t => ny_at D [(cI, .int), (cZ, .boolean), (cL, .long)] (va_A [(o, .inr (3, [.ref q1, .ref q2, .ref q3, .ref q4])), (q1, .inl (cI, 12, .inl hf)), (q2, .inl (cZ, 12, .inl bf)), (qL, .inl (cL, 1, .inr (.inl lf)))] sz) [(o, .inr (3, [.ref q1, .ref q2, .ref q3, .ref q4])), (q1, .inl (cI, 12, .inl (upd hf i0.toNatClampNeg (f_rs ((hf i1.toNatClampNeg - hf i2.toNatClampNeg).toInt64) (hf i3.toNatClampNeg))))), (q2, .inl (cZ, 12, .inl (upd bf i0.toNatClampNeg 0))), (qL, .inl (cL, 1, .inr (.inl (vp_updL lf (0 : Int32).toNatClampNeg (f_bt (f_rs ((hf i1.toNatClampNeg - hf i2.toNatClampNeg).toInt64) (hf i3.toNatClampNeg)) 0)))))] t) (va_A [(o, .inr (3, [.ref q1, .ref q2, .ref q3, .ref q4])), (q1, .inl (cI, 12, .inl hf)), (q2, .inl (cZ, 12, .inl bf)), (qL, .inl (cL, 1, .inr (.inl lf)))] sz)) 0 0 (va_A [(o, .inr (3, [.ref q1, .ref q2, .ref q3, .ref q4])), (q1, .inl (cI, 12, .inl hf)), (q2, .inl (cZ, 12, .inl bf)), (qL, .inl (cL, 1, .inr (.inl lf)))] sz) := by
  refine va_MetW (cc := cL_minus) (maxL := 7) (ret := (some .int)) (by decide) rfl ?_
  intro p e s m args below meth c s₁ B hml hv
  obtain ⟨rfl, hsz, hP, hK, hD0, hE⟩ := hv
  have hx := B.exec
  have hb := B.bytes
  have hr := B.returns
  have hts := atoms_spec (ws := wsL_minus) B.pre
  have hown : s.vm.findClass RL = some m.cls := findClass_of_methodNamed B.named
  have hlocks := B.notSynchronized
  have htab := vx_table (x := yL_minus) B (hts _ List.mem_cons_self)
  subst hsz
  have hD := hD0.self (sz := s.heap.size)
  generalize hAe : va_A [(o, .inr (3, [.ref q1, .ref q2, .ref q3, .ref q4])), (q1, .inl (cI, 12, .inl hf)), (q2, .inl (cZ, 12, .inl bf)), (qL, .inl (cL, 1, .inr (.inl lf)))] s.heap.size = A at hD hE ⊢
  have hA : ∀ q : Nat, s.heap.size ≤ q → A q := fun q h => by rw [← hAe]; exact Or.inr h
  have hS : va_S A s.heap s.heap [] := va_S.rf
  have hl := lv_entry ([.ref o, .int i0, .int i1, .int i2, .int i3, .ref qL]) (n := 7) (Nat.le_of_ble_eq_true rfl)
  rw [lg_entry_eq]
  generalize (lg_sl ([.ref o, .int i0, .int i1, .int i2, .int i3, .ref qL]) ++ List.replicate (7 - (lg_sl ([.ref o, .int i0, .int i1, .int i2, .int i3, .ref qL])).length) Slot.unset).toArray = ls at hl ⊢
  have hl : lv_has ls 7 [(0, .ref o), (1, .int i0), (2, .int i1), (3, .int i2), (4, .int i3), (5, .ref qL)] := hl
  refine lv_aload hx hb dL_minus_0 (lv_at hl 5 rfl) ?_
  refine lv_iconst (v := 0) hx hb dL_minus_2 (by decide) ?_
  refine lv_aload_n hx hb dL_minus_3 rfl (lv_at hl 0 rfl) ?_
  refine lv_iload_n hx hb dL_minus_4 rfl (lv_at hl 1 rfl) ?_
  refine lv_iload_n hx hb dL_minus_5 rfl (lv_at hl 2 rfl) ?_
  refine lv_iload_n hx hb dL_minus_6 rfl (lv_at hl 3 rfl) ?_
  refine lv_iload hx hb dL_minus_7 (lv_at hl 4 rfl) ?_
  refine ny_l (wc := [(o, .inr (3, [.ref q1, .ref q2, .ref q3, .ref q4])), (q1, .inl (cI, 12, .inl hf)), (q2, .inl (cZ, 12, .inl bf))]) (wr := [(qL, .inl (cL, 1, .inr (.inl lf)))]) hP hD hS hA [0, 1, 2] [3] rfl rfl (by decide) (by decide) (va_runV (As := [.int i0, .int i1, .int i2, .int i3]) (rest := [.int 0, .ref qL]) ⟨hx, hb, hml, hown, hts⟩ (c_X1_minus l D cI cZ o q1 q2 q3 q4 s.heap.size hf bf i0 i1 i2 i3 (by assumption) (by assumption) (by assumption) (by assumption) (by assumption) (by assumption)) (cwV 4 hts gL_minus_X1_minus rfl rfl rfl (by decide +kernel) ⟨Nat.le_of_ble_eq_true rfl, Nat.le_of_ble_eq_true rfl⟩) ⟨ny_blind, va_recv hK hP (ci := 3) (q0 := 0) rfl rfl, fun U hU hW => ⟨rfl, ny_preU hE hP hK hD hS hA [0, 1, 2] rfl (by decide) rfl [0, 1] rfl U hU hW⟩⟩ rfl rfl hl.1 rfl (lv_room (Nat.le_of_ble_eq_true rfl)) dL_minus_9 ⟨Nat.le_of_ble_eq_true rfl, Nat.le_of_ble_eq_true rfl⟩) (fun r_9 u H locs hw_9 hP hD hS => ?_)
  have hP : va_P D vwCl [(qL, .inl (cL, 1, .inr (.inl lf))), (o, .inr (3, [.ref q1, .ref q2, .ref q3, .ref q4])), (q1, .inl (cI, 12, .inl (upd hf i0.toNatClampNeg (f_rs ((hf i1.toNatClampNeg - hf i2.toNatClampNeg).toInt64) (hf i3.toNatClampNeg))))), (q2, .inl (cZ, 12, .inl (upd bf i0.toNatClampNeg 0)))] H := hP
  have hD : va_D A [(qL, .inl (cL, 1, .inr (.inl lf))), (o, .inr (3, [.ref q1, .ref q2, .ref q3, .ref q4])), (q1, .inl (cI, 12, .inl (upd hf i0.toNatClampNeg (f_rs ((hf i1.toNatClampNeg - hf i2.toNatClampNeg).toInt64) (hf i3.toNatClampNeg))))), (q2, .inl (cZ, 12, .inl (upd bf i0.toNatClampNeg 0)))] := hD
  have hw_9 : r_9 = f_bt (f_rs ((hf i1.toNatClampNeg - hf i2.toNatClampNeg).toInt64) (hf i3.toNatClampNeg)) 0 := hw_9
  subst hw_9
  refine va_last hx hb hK hP hD hS 0 2 rfl rfl (vp_in_iff.mpr (by decide)) dL_minus_12 (fun H locs hP hD hS => ?_)
  have hP : va_P D vwCl [(qL, .inl (cL, 1, .inr (.inl (vp_updL lf (0 : Int32).toNatClampNeg (f_bt (f_rs ((hf i1.toNatClampNeg - hf i2.toNatClampNeg).toInt64) (hf i3.toNatClampNeg)) 0))))), (o, .inr (3, [.ref q1, .ref q2, .ref q3, .ref q4])), (q1, .inl (cI, 12, .inl (upd hf i0.toNatClampNeg (f_rs ((hf i1.toNatClampNeg - hf i2.toNatClampNeg).toInt64) (hf i3.toNatClampNeg))))), (q2, .inl (cZ, 12, .inl (upd bf i0.toNatClampNeg 0)))] H := hP
  have hD : va_D A [(qL, .inl (cL, 1, .inr (.inl (vp_updL lf (0 : Int32).toNatClampNeg (f_bt (f_rs ((hf i1.toNatClampNeg - hf i2.toNatClampNeg).toInt64) (hf i3.toNatClampNeg)) 0))))), (o, .inr (3, [.ref q1, .ref q2, .ref q3, .ref q4])), (q1, .inl (cI, 12, .inl (upd hf i0.toNatClampNeg (f_rs ((hf i1.toNatClampNeg - hf i2.toNatClampNeg).toInt64) (hf i3.toNatClampNeg))))), (q2, .inl (cZ, 12, .inl (upd bf i0.toNatClampNeg 0)))] := hD
  refine lv_goto (tgt := 24) hx hb dL_minus_13 (by decide) ?_
  refine lv_iconst (v := 0) hx hb dL_minus_24 (by decide) ?_
  have hP9 := hP.sub (ws' := [(o, .inr (3, [.ref q1, .ref q2, .ref q3, .ref q4])), (q1, .inl (cI, 12, .inl (upd hf i0.toNatClampNeg (f_rs ((hf i1.toNatClampNeg - hf i2.toNatClampNeg).toInt64) (hf i3.toNatClampNeg))))), (q2, .inl (cZ, 12, .inl (upd bf i0.toNatClampNeg 0))), (qL, .inl (cL, 1, .inr (.inl (vp_updL lf (0 : Int32).toNatClampNeg (f_bt (f_rs ((hf i1.toNatClampNeg - hf i2.toNatClampNeg).toInt64) (hf i3.toNatClampNeg)) 0)))))]) [1, 2, 3, 0] rfl
  have hD9 := hD.sub (ws' := [(o, .inr (3, [.ref q1, .ref q2, .ref q3, .ref q4])), (q1, .inl (cI, 12, .inl (upd hf i0.toNatClampNeg (f_rs ((hf i1.toNatClampNeg - hf i2.toNatClampNeg).toInt64) (hf i3.toNatClampNeg))))), (q2, .inl (cZ, 12, .inl (upd bf i0.toNatClampNeg 0))), (qL, .inl (cL, 1, .inr (.inl (vp_updL lf (0 : Int32).toNatClampNeg (f_bt (f_rs ((hf i1.toNatClampNeg - hf i2.toNatClampNeg).toInt64) (hf i3.toNatClampNeg)) 0)))))]) [1, 2, 3, 0] (by decide) rfl
  exact W.iret (v := 0) hx hb hr (fun t ht hW => ⟨⟨0, (), rfl, (rfl), by rw [ht]; exact hP9, va_K.moved hW.alike hK, hD9⟩, hS.F ht⟩) hS.2.2 dL_minus_25
set_option maxHeartbeats 4000000 in
set_option maxRecDepth 100000 in
theorem c_L_minus_noP (l : Launch) (D : va_G) (cI : ClassId) (cZ : ClassId) (o : Nat) (q1 : Nat) (q2 : Nat) (q3 : Nat) (q4 : Nat) (sz : Nat) (hf : Nat → Int32) (bf : Nat → Int32) (i0 : Int32) (i1 : Int32) (i2 : Int32) (i3 : Int32) (cL : ClassId) (qL : Nat) (lf : Nat → Int64) (gl : l.stackTraces = false) (gb : ¬ vp_in i0 12 ∨ (¬ vp_in i2 12 ∨ (¬ vp_in i1 12 ∨ ¬ vp_in i3 12))) : Met l yL_minus wsL_minus ({ frames := 9, cells := 1, slots := 6, locals := 156 }) (va_Pc [.ref o, .int i0, .int i1, .int i2, .int i3, .ref qL] (ny_pre D [(cI, .int), (cZ, .boolean), (cL, .long)] [(o, .inr (3, [.ref q1, .ref q2, .ref q3, .ref q4])), (q1, .inl (cI, 12, .inl hf)), (q2, .inl (cZ, 12, .inl bf)), (qL, .inl (cL, 1, .inr (.inl lf)))] sz)) (va_Qi (fun (r : Int32) (u : Unit) => r = 1) (fun (u : Unit) t => ny_at D [(cI, .int), (cZ, .boolean), (cL, .long)] (va_A [(o, .inr (3, [.ref q1, .ref q2, .ref q3, .ref q4])), (q1, .inl (cI, 12, .inl hf)), (q2, .inl (cZ, 12, .inl bf)), (qL, .inl (cL, 1, .inr (.inl lf)))] sz) [(o, .inr (3, [.ref q1, .ref q2, .ref q3, .ref q4])), (q1, .inl (cI, 12, .inl hf)), (q2, .inl (cZ, 12, .inl bf)), (qL, .inl (cL, 1, .inr (.inl lf)))] t) (va_A [(o, .inr (3, [.ref q1, .ref q2, .ref q3, .ref q4])), (q1, .inl (cI, 12, .inl hf)), (q2, .inl (cZ, 12, .inl bf)), (qL, .inl (cL, 1, .inr (.inl lf)))] sz)) 1 6 (va_A [(o, .inr (3, [.ref q1, .ref q2, .ref q3, .ref q4])), (q1, .inl (cI, 12, .inl hf)), (q2, .inl (cZ, 12, .inl bf)), (qL, .inl (cL, 1, .inr (.inl lf)))] sz) := by
  refine va_MetW (cc := cL_minus) (maxL := 7) (ret := (some .int)) (by decide) rfl ?_
  intro p e s m args below meth c s₁ B hml hv
  obtain ⟨rfl, hsz, hP, hK, hD0, hE⟩ := hv
  have hx := B.exec
  have hb := B.bytes
  have hr := B.returns
  have hts := atoms_spec (ws := wsL_minus) B.pre
  have hown : s.vm.findClass RL = some m.cls := findClass_of_methodNamed B.named
  have hlocks := B.notSynchronized
  have htab := vx_table (x := yL_minus) B (hts _ List.mem_cons_self)
  subst hsz
  have hD := hD0.self (sz := s.heap.size)
  generalize hAe : va_A [(o, .inr (3, [.ref q1, .ref q2, .ref q3, .ref q4])), (q1, .inl (cI, 12, .inl hf)), (q2, .inl (cZ, 12, .inl bf)), (qL, .inl (cL, 1, .inr (.inl lf)))] s.heap.size = A at hD hE ⊢
  have hA : ∀ q : Nat, s.heap.size ≤ q → A q := fun q h => by rw [← hAe]; exact Or.inr h
  have hS : va_S A s.heap s.heap [] := va_S.rf
  have hl := lv_entry ([.ref o, .int i0, .int i1, .int i2, .int i3, .ref qL]) (n := 7) (Nat.le_of_ble_eq_true rfl)
  rw [lg_entry_eq]
  generalize (lg_sl ([.ref o, .int i0, .int i1, .int i2, .int i3, .ref qL]) ++ List.replicate (7 - (lg_sl ([.ref o, .int i0, .int i1, .int i2, .int i3, .ref qL])).length) Slot.unset).toArray = ls at hl ⊢
  have hl : lv_has ls 7 [(0, .ref o), (1, .int i0), (2, .int i1), (3, .int i2), (4, .int i3), (5, .ref qL)] := hl
  refine lv_aload hx hb dL_minus_0 (lv_at hl 5 rfl) ?_
  refine lv_iconst (v := 0) hx hb dL_minus_2 (by decide) ?_
  refine lv_aload_n hx hb dL_minus_3 rfl (lv_at hl 0 rfl) ?_
  refine lv_iload_n hx hb dL_minus_4 rfl (lv_at hl 1 rfl) ?_
  refine lv_iload_n hx hb dL_minus_5 rfl (lv_at hl 2 rfl) ?_
  refine lv_iload_n hx hb dL_minus_6 rfl (lv_at hl 3 rfl) ?_
  refine lv_iload hx hb dL_minus_7 (lv_at hl 4 rfl) ?_
  refine ny_x hS (va_free (wc := [(o, .inr (3, [.ref q1, .ref q2, .ref q3, .ref q4])), (q1, .inl (cI, 12, .inl hf)), (q2, .inl (cZ, 12, .inl bf))]) hD hS hA [0, 1, 2] rfl) (vx_runV (As := [.int i0, .int i1, .int i2, .int i3]) (rest := [.int 0, .ref qL]) ⟨hx, hb, hml, hown, hts⟩ (c_X1_minus_noP l D cI cZ o q1 q2 q3 q4 s.heap.size hf bf i0 i1 i2 i3 (by assumption) (by assumption)) (cwV 4 hts gL_minus_X1_minus rfl rfl rfl (by decide +kernel) ⟨Nat.le_of_ble_eq_true rfl, Nat.le_of_ble_eq_true rfl⟩) ⟨ny_blind, va_recv hK hP (ci := 3) (q0 := 0) rfl rfl, fun U hU hW => ⟨rfl, ny_preU hE hP hK hD hS hA [0, 1, 2] rfl (by decide) rfl [0, 1] rfl U hU hW⟩⟩ rfl rfl hl.1 rfl (lv_room (Nat.le_of_ble_eq_true rfl)) dL_minus_9 ⟨Nat.le_of_ble_eq_true rfl, Nat.le_of_ble_eq_true rfl⟩) (fun ce q9 H locs hz9 hk9 hS hc9 hv9 hn9 => ?_)
  have hP : va_P D vwCl [(o, .inr (3, [.ref q1, .ref q2, .ref q3, .ref q4])), (q1, .inl (cI, 12, .inl hf)), (q2, .inl (cZ, 12, .inl bf)), (qL, .inl (cL, 1, .inr (.inl lf)))] H := ny_keep hP hk9
  refine vx_catch (own := RL) (name := ny_IO) (E := ny_IO) hown (tableOf []) ⟨0, 13, 16, 13⟩ (tableOf [(0, 13, 20, 39)]) (htab.trans rfl) (fun z hz => absurd hz List.not_mem_nil) (by decide) (by decide) (hts (.classLink RL 13 "java/lang/IndexOutOfBoundsException") (List.mem_of_getElem? (i := 1) rfl)) (va_Nw.use rfl (hE.2.2.2.2.1 _ (List.mem_of_getElem? (i := 0) rfl))) hc9 hv9 hn9 ?_
  refine W.eq (g2 := F0 m 16 ls [.ref q9]) rfl ?_
  refine lv_astore (lv' := [(6, .ref q9), (0, .ref o), (1, .int i0), (2, .int i1), (3, .int i2), (4, .int i3), (5, .ref qL)]) hx hb dL_minus_16 hl (by decide) rfl (fun ls hl => ?_)
  refine lv_iconst (v := 1) hx hb dL_minus_18 (by decide) ?_
  have hP9 := hP.sub (ws' := [(o, .inr (3, [.ref q1, .ref q2, .ref q3, .ref q4])), (q1, .inl (cI, 12, .inl hf)), (q2, .inl (cZ, 12, .inl bf)), (qL, .inl (cL, 1, .inr (.inl lf)))]) [0, 1, 2, 3] rfl
  have hD9 := hD.sub (ws' := [(o, .inr (3, [.ref q1, .ref q2, .ref q3, .ref q4])), (q1, .inl (cI, 12, .inl hf)), (q2, .inl (cZ, 12, .inl bf)), (qL, .inl (cL, 1, .inr (.inl lf)))]) [0, 1, 2, 3] (by decide) rfl
  refine W.widen (k := 1) (n := 6) (Nat.le_of_ble_eq_true rfl) (Nat.le_of_ble_eq_true rfl) ?_
  exact W.iret (v := 1) hx hb hr (fun t ht hW => ⟨⟨1, (), rfl, (rfl), by rw [ht]; exact hP9, va_K.moved hW.alike hK, hD9⟩, hS.F ht⟩) hS.2.2 dL_minus_19
set_option maxHeartbeats 4000000 in
set_option maxRecDepth 100000 in
theorem c_L_minus_no0 (l : Launch) (D : va_G) (cI : ClassId) (cZ : ClassId) (o : Nat) (q1 : Nat) (q2 : Nat) (q3 : Nat) (q4 : Nat) (sz : Nat) (hf : Nat → Int32) (bf : Nat → Int32) (i0 : Int32) (i1 : Int32) (i2 : Int32) (i3 : Int32) (cL : ClassId) (qL : Nat) (lf : Nat → Int64) (gl : l.stackTraces = false) (gp0 : vp_in i0 12) (gp1 : vp_in i1 12) (gp2 : vp_in i2 12) (gp3 : vp_in i3 12) (g0 : hf i3.toNatClampNeg = 0) : Met l yL_minus wsL_minus ({ frames := 8, cells := 1, slots := 6, locals := 136 }) (va_Pc [.ref o, .int i0, .int i1, .int i2, .int i3, .ref qL] (ny_pre D [(cI, .int), (cZ, .boolean), (cL, .long)] [(o, .inr (3, [.ref q1, .ref q2, .ref q3, .ref q4])), (q1, .inl (cI, 12, .inl hf)), (q2, .inl (cZ, 12, .inl bf)), (qL, .inl (cL, 1, .inr (.inl lf)))] sz)) (va_Qi (fun (r : Int32) (u : Unit) => r = 2) (fun (u : Unit) t => ny_at D [(cI, .int), (cZ, .boolean), (cL, .long)] (va_A [(o, .inr (3, [.ref q1, .ref q2, .ref q3, .ref q4])), (q1, .inl (cI, 12, .inl hf)), (q2, .inl (cZ, 12, .inl bf)), (qL, .inl (cL, 1, .inr (.inl lf)))] sz) [(o, .inr (3, [.ref q1, .ref q2, .ref q3, .ref q4])), (q1, .inl (cI, 12, .inl hf)), (q2, .inl (cZ, 12, .inl bf)), (qL, .inl (cL, 1, .inr (.inl lf)))] t) (va_A [(o, .inr (3, [.ref q1, .ref q2, .ref q3, .ref q4])), (q1, .inl (cI, 12, .inl hf)), (q2, .inl (cZ, 12, .inl bf)), (qL, .inl (cL, 1, .inr (.inl lf)))] sz)) 1 6 (va_A [(o, .inr (3, [.ref q1, .ref q2, .ref q3, .ref q4])), (q1, .inl (cI, 12, .inl hf)), (q2, .inl (cZ, 12, .inl bf)), (qL, .inl (cL, 1, .inr (.inl lf)))] sz) := by
  refine va_MetW (cc := cL_minus) (maxL := 7) (ret := (some .int)) (by decide) rfl ?_
  intro p e s m args below meth c s₁ B hml hv
  obtain ⟨rfl, hsz, hP, hK, hD0, hE⟩ := hv
  have hx := B.exec
  have hb := B.bytes
  have hr := B.returns
  have hts := atoms_spec (ws := wsL_minus) B.pre
  have hown : s.vm.findClass RL = some m.cls := findClass_of_methodNamed B.named
  have hlocks := B.notSynchronized
  have htab := vx_table (x := yL_minus) B (hts _ List.mem_cons_self)
  subst hsz
  have hD := hD0.self (sz := s.heap.size)
  generalize hAe : va_A [(o, .inr (3, [.ref q1, .ref q2, .ref q3, .ref q4])), (q1, .inl (cI, 12, .inl hf)), (q2, .inl (cZ, 12, .inl bf)), (qL, .inl (cL, 1, .inr (.inl lf)))] s.heap.size = A at hD hE ⊢
  have hA : ∀ q : Nat, s.heap.size ≤ q → A q := fun q h => by rw [← hAe]; exact Or.inr h
  have hS : va_S A s.heap s.heap [] := va_S.rf
  have hl := lv_entry ([.ref o, .int i0, .int i1, .int i2, .int i3, .ref qL]) (n := 7) (Nat.le_of_ble_eq_true rfl)
  rw [lg_entry_eq]
  generalize (lg_sl ([.ref o, .int i0, .int i1, .int i2, .int i3, .ref qL]) ++ List.replicate (7 - (lg_sl ([.ref o, .int i0, .int i1, .int i2, .int i3, .ref qL])).length) Slot.unset).toArray = ls at hl ⊢
  have hl : lv_has ls 7 [(0, .ref o), (1, .int i0), (2, .int i1), (3, .int i2), (4, .int i3), (5, .ref qL)] := hl
  refine lv_aload hx hb dL_minus_0 (lv_at hl 5 rfl) ?_
  refine lv_iconst (v := 0) hx hb dL_minus_2 (by decide) ?_
  refine lv_aload_n hx hb dL_minus_3 rfl (lv_at hl 0 rfl) ?_
  refine lv_iload_n hx hb dL_minus_4 rfl (lv_at hl 1 rfl) ?_
  refine lv_iload_n hx hb dL_minus_5 rfl (lv_at hl 2 rfl) ?_
  refine lv_iload_n hx hb dL_minus_6 rfl (lv_at hl 3 rfl) ?_
  refine lv_iload hx hb dL_minus_7 (lv_at hl 4 rfl) ?_
  refine ny_x hS (va_free (wc := [(o, .inr (3, [.ref q1, .ref q2, .ref q3, .ref q4])), (q1, .inl (cI, 12, .inl hf)), (q2, .inl (cZ, 12, .inl bf))]) hD hS hA [0, 1, 2] rfl) (vx_runV (As := [.int i0, .int i1, .int i2, .int i3]) (rest := [.int 0, .ref qL]) ⟨hx, hb, hml, hown, hts⟩ (c_X1_minus_no0 l D cI cZ o q1 q2 q3 q4 s.heap.size hf bf i0 i1 i2 i3 (by assumption) (by assumption) (by assumption) (by assumption) (by assumption) (by assumption)) (cwV 4 hts gL_minus_X1_minus rfl rfl rfl (by decide +kernel) ⟨Nat.le_of_ble_eq_true rfl, Nat.le_of_ble_eq_true rfl⟩) ⟨ny_blind, va_recv hK hP (ci := 3) (q0 := 0) rfl rfl, fun U hU hW => ⟨rfl, ny_preU hE hP hK hD hS hA [0, 1, 2] rfl (by decide) rfl [0, 1] rfl U hU hW⟩⟩ rfl rfl hl.1 rfl (lv_room (Nat.le_of_ble_eq_true rfl)) dL_minus_9 ⟨Nat.le_of_ble_eq_true rfl, Nat.le_of_ble_eq_true rfl⟩) (fun ce q9 H locs hz9 hk9 hS hc9 hv9 hn9 => ?_)
  have hP : va_P D vwCl [(o, .inr (3, [.ref q1, .ref q2, .ref q3, .ref q4])), (q1, .inl (cI, 12, .inl hf)), (q2, .inl (cZ, 12, .inl bf)), (qL, .inl (cL, 1, .inr (.inl lf)))] H := ny_keep hP hk9
  refine vx_catch (own := RL) (name := ny_AE) (E := ny_AE) hown (tableOf [(0, 13, 16, 13)]) ⟨0, 13, 20, 39⟩ (tableOf []) (htab.trans rfl) (List.forall_mem_cons.mpr ⟨Or.inr ⟨(by decide), ny_IO, (hts (.classLink RL 13 "java/lang/IndexOutOfBoundsException") (List.mem_of_getElem? (i := 1) rfl)), (hE.2.2.2.2.2.1 _ (List.mem_of_getElem? (i := 0) rfl))⟩, (fun z hz => absurd hz List.not_mem_nil)⟩) (by decide) (by decide) (hts (.classLink RL 39 "java/lang/ArithmeticException") (List.mem_of_getElem? (i := 2) rfl)) (va_Nw.use rfl (hE.2.2.2.2.1 _ (List.mem_of_getElem? (i := 2) rfl))) hc9 hv9 hn9 ?_
  refine W.eq (g2 := F0 m 20 ls [.ref q9]) rfl ?_
  refine lv_astore (lv' := [(6, .ref q9), (0, .ref o), (1, .int i0), (2, .int i1), (3, .int i2), (4, .int i3), (5, .ref qL)]) hx hb dL_minus_20 hl (by decide) rfl (fun ls hl => ?_)
  refine lv_iconst (v := 2) hx hb dL_minus_22 (by decide) ?_
  have hP9 := hP.sub (ws' := [(o, .inr (3, [.ref q1, .ref q2, .ref q3, .ref q4])), (q1, .inl (cI, 12, .inl hf)), (q2, .inl (cZ, 12, .inl bf)), (qL, .inl (cL, 1, .inr (.inl lf)))]) [0, 1, 2, 3] rfl
  have hD9 := hD.sub (ws' := [(o, .inr (3, [.ref q1, .ref q2, .ref q3, .ref q4])), (q1, .inl (cI, 12, .inl hf)), (q2, .inl (cZ, 12, .inl bf)), (qL, .inl (cL, 1, .inr (.inl lf)))]) [0, 1, 2, 3] (by decide) rfl
  refine W.widen (k := 1) (n := 6) (Nat.le_of_ble_eq_true rfl) (Nat.le_of_ble_eq_true rfl) ?_
  exact W.iret (v := 2) hx hb hr (fun t ht hW => ⟨⟨2, (), rfl, (rfl), by rw [ht]; exact hP9, va_K.moved hW.alike hK, hD9⟩, hS.F ht⟩) hS.2.2 dL_minus_23
set_option maxHeartbeats 4000000 in
set_option maxRecDepth 100000 in
theorem c_L_many (l : Launch) (D : va_G) (cI : ClassId) (cZ : ClassId) (o : Nat) (q1 : Nat) (q2 : Nat) (q3 : Nat) (q4 : Nat) (sz : Nat) (hf : Nat → Int32) (bf : Nat → Int32) (i0 : Int32) (i1 : Int32) (i2 : Int32) (i3 : Int32) (cL : ClassId) (qL : Nat) (lf : Nat → Int64) (gp0 : vp_in i0 12) (gp2 : vp_in i2 12) (gp3 : vp_in i3 12) (g0 : ¬ hf i3.toNatClampNeg = 0) (gH : ny_H hf) : Met l yL_many wsL_many ({ frames := 6, cells := 0, slots := 0, locals := 143 }) (va_Pc [.ref o, .int i0, .int i1, .int i2, .int i3, .ref qL] (ny_pre D [(cI, .int), (cZ, .boolean), (cL, .long)] [(o, .inr (3, [.ref q1, .ref q2, .ref q3, .ref q4])), (q1, .inl (cI, 12, .inl hf)), (q2, .inl (cZ, 12, .inl bf)), (qL, .inl (cL, 1, .inr (.inl lf)))] sz)) (va_Qi (fun (r : Int32) (u : Unit) => r = 0) (fun (u : Unit) t => ny_at D [(cI, .int), (cZ, .boolean), (cL, .long)] (va_A [(o, .inr (3, [.ref q1, .ref q2, .ref q3, .ref q4])), (q1, .inl (cI, 12, .inl hf)), (q2, .inl (cZ, 12, .inl bf)), (qL, .inl (cL, 1, .inr (.inl lf)))] sz) [(o, .inr (3, [.ref q1, .ref q2, .ref q3, .ref q4])), (q1, .inl (cI, 12, .inl (upd hf i0.toNatClampNeg (f_rs (i1.toInt64 * (hf i2.toNatClampNeg).toInt64) (hf i3.toNatClampNeg))))), (q2, .inl (cZ, 12, .inl (upd bf i0.toNatClampNeg 0))), (qL, .inl (cL, 1, .inr (.inl (vp_updL lf (0 : Int32).toNatClampNeg (f_bt (f_rs (i1.toInt64 * (hf i2.toNatClampNeg).toInt64) (hf i3.toNatClampNeg)) 0)))))] t) (va_A [(o, .inr (3, [.ref q1, .ref q2, .ref q3, .ref q4])), (q1, .inl (cI, 12, .inl hf)), (q2, .inl (cZ, 12, .inl bf)), (qL, .inl (cL, 1, .inr (.inl lf)))] sz)) 0 0 (va_A [(o, .inr (3, [.ref q1, .ref q2, .ref q3, .ref q4])), (q1, .inl (cI, 12, .inl hf)), (q2, .inl (cZ, 12, .inl bf)), (qL, .inl (cL, 1, .inr (.inl lf)))] sz) := by
  refine va_MetW (cc := cL_many) (maxL := 7) (ret := (some .int)) (by decide) rfl ?_
  intro p e s m args below meth c s₁ B hml hv
  obtain ⟨rfl, hsz, hP, hK, hD0, hE⟩ := hv
  have hx := B.exec
  have hb := B.bytes
  have hr := B.returns
  have hts := atoms_spec (ws := wsL_many) B.pre
  have hown : s.vm.findClass RL = some m.cls := findClass_of_methodNamed B.named
  have hlocks := B.notSynchronized
  have htab := vx_table (x := yL_many) B (hts _ List.mem_cons_self)
  subst hsz
  have hD := hD0.self (sz := s.heap.size)
  generalize hAe : va_A [(o, .inr (3, [.ref q1, .ref q2, .ref q3, .ref q4])), (q1, .inl (cI, 12, .inl hf)), (q2, .inl (cZ, 12, .inl bf)), (qL, .inl (cL, 1, .inr (.inl lf)))] s.heap.size = A at hD hE ⊢
  have hA : ∀ q : Nat, s.heap.size ≤ q → A q := fun q h => by rw [← hAe]; exact Or.inr h
  have hS : va_S A s.heap s.heap [] := va_S.rf
  have hl := lv_entry ([.ref o, .int i0, .int i1, .int i2, .int i3, .ref qL]) (n := 7) (Nat.le_of_ble_eq_true rfl)
  rw [lg_entry_eq]
  generalize (lg_sl ([.ref o, .int i0, .int i1, .int i2, .int i3, .ref qL]) ++ List.replicate (7 - (lg_sl ([.ref o, .int i0, .int i1, .int i2, .int i3, .ref qL])).length) Slot.unset).toArray = ls at hl ⊢
  have hl : lv_has ls 7 [(0, .ref o), (1, .int i0), (2, .int i1), (3, .int i2), (4, .int i3), (5, .ref qL)] := hl
  refine lv_aload hx hb dL_many_0 (lv_at hl 5 rfl) ?_
  refine lv_iconst (v := 0) hx hb dL_many_2 (by decide) ?_
  refine lv_aload_n hx hb dL_many_3 rfl (lv_at hl 0 rfl) ?_
  refine lv_iload_n hx hb dL_many_4 rfl (lv_at hl 1 rfl) ?_
  refine lv_iload_n hx hb dL_many_5 rfl (lv_at hl 2 rfl) ?_
  refine lv_iload_n hx hb dL_many_6 rfl (lv_at hl 3 rfl) ?_
  refine lv_iload hx hb dL_many_7 (lv_at hl 4 rfl) ?_
  refine ny_l (wc := [(o, .inr (3, [.ref q1, .ref q2, .ref q3, .ref q4])), (q1, .inl (cI, 12, .inl hf)), (q2, .inl (cZ, 12, .inl bf))]) (wr := [(qL, .inl (cL, 1, .inr (.inl lf)))]) hP hD hS hA [0, 1, 2] [3] rfl rfl (by decide) (by decide) (va_runV (As := [.int i0, .int i1, .int i2, .int i3]) (rest := [.int 0, .ref qL]) ⟨hx, hb, hml, hown, hts⟩ (c_X1_many l D cI cZ o q1 q2 q3 q4 s.heap.size hf bf i0 i1 i2 i3 (by assumption) (by assumption) (by assumption) (by assumption) (by assumption)) (cwV 4 hts gL_many_X1_many rfl rfl rfl (by decide +kernel) ⟨Nat.le_of_ble_eq_true rfl, Nat.le_of_ble_eq_true rfl⟩) ⟨ny_blind, va_recv hK hP (ci := 3) (q0 := 0) rfl rfl, fun U hU hW => ⟨rfl, ny_preU hE hP hK hD hS hA [0, 1, 2] rfl (by decide) rfl [0, 1] rfl U hU hW⟩⟩ rfl rfl hl.1 rfl (lv_room (Nat.le_of_ble_eq_true rfl)) dL_many_9 ⟨Nat.le_of_ble_eq_true rfl, Nat.le_of_ble_eq_true rfl⟩) (fun r_9 u H locs hw_9 hP hD hS => ?_)
  have hP : va_P D vwCl [(qL, .inl (cL, 1, .inr (.inl lf))), (o, .inr (3, [.ref q1, .ref q2, .ref q3, .ref q4])), (q1, .inl (cI, 12, .inl (upd hf i0.toNatClampNeg (f_rs (i1.toInt64 * (hf i2.toNatClampNeg).toInt64) (hf i3.toNatClampNeg))))), (q2, .inl (cZ, 12, .inl (upd bf i0.toNatClampNeg 0)))] H := hP
  have hD : va_D A [(qL, .inl (cL, 1, .inr (.inl lf))), (o, .inr (3, [.ref q1, .ref q2, .ref q3, .ref q4])), (q1, .inl (cI, 12, .inl (upd hf i0.toNatClampNeg (f_rs (i1.toInt64 * (hf i2.toNatClampNeg).toInt64) (hf i3.toNatClampNeg))))), (q2, .inl (cZ, 12, .inl (upd bf i0.toNatClampNeg 0)))] := hD
  have hw_9 : r_9 = f_bt (f_rs (i1.toInt64 * (hf i2.toNatClampNeg).toInt64) (hf i3.toNatClampNeg)) 0 := hw_9
  subst hw_9
  refine va_last hx hb hK hP hD hS 0 2 rfl rfl (vp_in_iff.mpr (by decide)) dL_many_12 (fun H locs hP hD hS => ?_)
  have hP : va_P D vwCl [(qL, .inl (cL, 1, .inr (.inl (vp_updL lf (0 : Int32).toNatClampNeg (f_bt (f_rs (i1.toInt64 * (hf i2.toNatClampNeg).toInt64) (hf i3.toNatClampNeg)) 0))))), (o, .inr (3, [.ref q1, .ref q2, .ref q3, .ref q4])), (q1, .inl (cI, 12, .inl (upd hf i0.toNatClampNeg (f_rs (i1.toInt64 * (hf i2.toNatClampNeg).toInt64) (hf i3.toNatClampNeg))))), (q2, .inl (cZ, 12, .inl (upd bf i0.toNatClampNeg 0)))] H := hP
  have hD : va_D A [(qL, .inl (cL, 1, .inr (.inl (vp_updL lf (0 : Int32).toNatClampNeg (f_bt (f_rs (i1.toInt64 * (hf i2.toNatClampNeg).toInt64) (hf i3.toNatClampNeg)) 0))))), (o, .inr (3, [.ref q1, .ref q2, .ref q3, .ref q4])), (q1, .inl (cI, 12, .inl (upd hf i0.toNatClampNeg (f_rs (i1.toInt64 * (hf i2.toNatClampNeg).toInt64) (hf i3.toNatClampNeg))))), (q2, .inl (cZ, 12, .inl (upd bf i0.toNatClampNeg 0)))] := hD
  refine lv_goto (tgt := 24) hx hb dL_many_13 (by decide) ?_
  refine lv_iconst (v := 0) hx hb dL_many_24 (by decide) ?_
  have hP9 := hP.sub (ws' := [(o, .inr (3, [.ref q1, .ref q2, .ref q3, .ref q4])), (q1, .inl (cI, 12, .inl (upd hf i0.toNatClampNeg (f_rs (i1.toInt64 * (hf i2.toNatClampNeg).toInt64) (hf i3.toNatClampNeg))))), (q2, .inl (cZ, 12, .inl (upd bf i0.toNatClampNeg 0))), (qL, .inl (cL, 1, .inr (.inl (vp_updL lf (0 : Int32).toNatClampNeg (f_bt (f_rs (i1.toInt64 * (hf i2.toNatClampNeg).toInt64) (hf i3.toNatClampNeg)) 0)))))]) [1, 2, 3, 0] rfl
  have hD9 := hD.sub (ws' := [(o, .inr (3, [.ref q1, .ref q2, .ref q3, .ref q4])), (q1, .inl (cI, 12, .inl (upd hf i0.toNatClampNeg (f_rs (i1.toInt64 * (hf i2.toNatClampNeg).toInt64) (hf i3.toNatClampNeg))))), (q2, .inl (cZ, 12, .inl (upd bf i0.toNatClampNeg 0))), (qL, .inl (cL, 1, .inr (.inl (vp_updL lf (0 : Int32).toNatClampNeg (f_bt (f_rs (i1.toInt64 * (hf i2.toNatClampNeg).toInt64) (hf i3.toNatClampNeg)) 0)))))]) [1, 2, 3, 0] (by decide) rfl
  exact W.iret (v := 0) hx hb hr (fun t ht hW => ⟨⟨0, (), rfl, (rfl), by rw [ht]; exact hP9, va_K.moved hW.alike hK, hD9⟩, hS.F ht⟩) hS.2.2 dL_many_25
set_option maxHeartbeats 4000000 in
set_option maxRecDepth 100000 in
theorem c_L_many_noP (l : Launch) (D : va_G) (cI : ClassId) (cZ : ClassId) (o : Nat) (q1 : Nat) (q2 : Nat) (q3 : Nat) (q4 : Nat) (sz : Nat) (hf : Nat → Int32) (bf : Nat → Int32) (i0 : Int32) (i1 : Int32) (i2 : Int32) (i3 : Int32) (cL : ClassId) (qL : Nat) (lf : Nat → Int64) (gl : l.stackTraces = false) (gb : ¬ vp_in i0 12 ∨ (¬ vp_in i2 12 ∨ ¬ vp_in i3 12)) : Met l yL_many wsL_many ({ frames := 9, cells := 1, slots := 6, locals := 156 }) (va_Pc [.ref o, .int i0, .int i1, .int i2, .int i3, .ref qL] (ny_pre D [(cI, .int), (cZ, .boolean), (cL, .long)] [(o, .inr (3, [.ref q1, .ref q2, .ref q3, .ref q4])), (q1, .inl (cI, 12, .inl hf)), (q2, .inl (cZ, 12, .inl bf)), (qL, .inl (cL, 1, .inr (.inl lf)))] sz)) (va_Qi (fun (r : Int32) (u : Unit) => r = 1) (fun (u : Unit) t => ny_at D [(cI, .int), (cZ, .boolean), (cL, .long)] (va_A [(o, .inr (3, [.ref q1, .ref q2, .ref q3, .ref q4])), (q1, .inl (cI, 12, .inl hf)), (q2, .inl (cZ, 12, .inl bf)), (qL, .inl (cL, 1, .inr (.inl lf)))] sz) [(o, .inr (3, [.ref q1, .ref q2, .ref q3, .ref q4])), (q1, .inl (cI, 12, .inl hf)), (q2, .inl (cZ, 12, .inl bf)), (qL, .inl (cL, 1, .inr (.inl lf)))] t) (va_A [(o, .inr (3, [.ref q1, .ref q2, .ref q3, .ref q4])), (q1, .inl (cI, 12, .inl hf)), (q2, .inl (cZ, 12, .inl bf)), (qL, .inl (cL, 1, .inr (.inl lf)))] sz)) 1 6 (va_A [(o, .inr (3, [.ref q1, .ref q2, .ref q3, .ref q4])), (q1, .inl (cI, 12, .inl hf)), (q2, .inl (cZ, 12, .inl bf)), (qL, .inl (cL, 1, .inr (.inl lf)))] sz) := by
  refine va_MetW (cc := cL_many) (maxL := 7) (ret := (some .int)) (by decide) rfl ?_
  intro p e s m args below meth c s₁ B hml hv
  obtain ⟨rfl, hsz, hP, hK, hD0, hE⟩ := hv
  have hx := B.exec
  have hb := B.bytes
  have hr := B.returns
  have hts := atoms_spec (ws := wsL_many) B.pre
  have hown : s.vm.findClass RL = some m.cls := findClass_of_methodNamed B.named
  have hlocks := B.notSynchronized
  have htab := vx_table (x := yL_many) B (hts _ List.mem_cons_self)
  subst hsz
  have hD := hD0.self (sz := s.heap.size)
  generalize hAe : va_A [(o, .inr (3, [.ref q1, .ref q2, .ref q3, .ref q4])), (q1, .inl (cI, 12, .inl hf)), (q2, .inl (cZ, 12, .inl bf)), (qL, .inl (cL, 1, .inr (.inl lf)))] s.heap.size = A at hD hE ⊢
  have hA : ∀ q : Nat, s.heap.size ≤ q → A q := fun q h => by rw [← hAe]; exact Or.inr h
  have hS : va_S A s.heap s.heap [] := va_S.rf
  have hl := lv_entry ([.ref o, .int i0, .int i1, .int i2, .int i3, .ref qL]) (n := 7) (Nat.le_of_ble_eq_true rfl)
  rw [lg_entry_eq]
  generalize (lg_sl ([.ref o, .int i0, .int i1, .int i2, .int i3, .ref qL]) ++ List.replicate (7 - (lg_sl ([.ref o, .int i0, .int i1, .int i2, .int i3, .ref qL])).length) Slot.unset).toArray = ls at hl ⊢
  have hl : lv_has ls 7 [(0, .ref o), (1, .int i0), (2, .int i1), (3, .int i2), (4, .int i3), (5, .ref qL)] := hl
  refine lv_aload hx hb dL_many_0 (lv_at hl 5 rfl) ?_
  refine lv_iconst (v := 0) hx hb dL_many_2 (by decide) ?_
  refine lv_aload_n hx hb dL_many_3 rfl (lv_at hl 0 rfl) ?_
  refine lv_iload_n hx hb dL_many_4 rfl (lv_at hl 1 rfl) ?_
  refine lv_iload_n hx hb dL_many_5 rfl (lv_at hl 2 rfl) ?_
  refine lv_iload_n hx hb dL_many_6 rfl (lv_at hl 3 rfl) ?_
  refine lv_iload hx hb dL_many_7 (lv_at hl 4 rfl) ?_
  refine ny_x hS (va_free (wc := [(o, .inr (3, [.ref q1, .ref q2, .ref q3, .ref q4])), (q1, .inl (cI, 12, .inl hf)), (q2, .inl (cZ, 12, .inl bf))]) hD hS hA [0, 1, 2] rfl) (vx_runV (As := [.int i0, .int i1, .int i2, .int i3]) (rest := [.int 0, .ref qL]) ⟨hx, hb, hml, hown, hts⟩ (c_X1_many_noP l D cI cZ o q1 q2 q3 q4 s.heap.size hf bf i0 i1 i2 i3 (by assumption) (by assumption)) (cwV 4 hts gL_many_X1_many rfl rfl rfl (by decide +kernel) ⟨Nat.le_of_ble_eq_true rfl, Nat.le_of_ble_eq_true rfl⟩) ⟨ny_blind, va_recv hK hP (ci := 3) (q0 := 0) rfl rfl, fun U hU hW => ⟨rfl, ny_preU hE hP hK hD hS hA [0, 1, 2] rfl (by decide) rfl [0, 1] rfl U hU hW⟩⟩ rfl rfl hl.1 rfl (lv_room (Nat.le_of_ble_eq_true rfl)) dL_many_9 ⟨Nat.le_of_ble_eq_true rfl, Nat.le_of_ble_eq_true rfl⟩) (fun ce q9 H locs hz9 hk9 hS hc9 hv9 hn9 => ?_)
  have hP : va_P D vwCl [(o, .inr (3, [.ref q1, .ref q2, .ref q3, .ref q4])), (q1, .inl (cI, 12, .inl hf)), (q2, .inl (cZ, 12, .inl bf)), (qL, .inl (cL, 1, .inr (.inl lf)))] H := ny_keep hP hk9
  refine vx_catch (own := RL) (name := ny_IO) (E := ny_IO) hown (tableOf []) ⟨0, 13, 16, 13⟩ (tableOf [(0, 13, 20, 39)]) (htab.trans rfl) (fun z hz => absurd hz List.not_mem_nil) (by decide) (by decide) (hts (.classLink RL 13 "java/lang/IndexOutOfBoundsException") (List.mem_of_getElem? (i := 1) rfl)) (va_Nw.use rfl (hE.2.2.2.2.1 _ (List.mem_of_getElem? (i := 0) rfl))) hc9 hv9 hn9 ?_
  refine W.eq (g2 := F0 m 16 ls [.ref q9]) rfl ?_
  refine lv_astore (lv' := [(6, .ref q9), (0, .ref o), (1, .int i0), (2, .int i1), (3, .int i2), (4, .int i3), (5, .ref qL)]) hx hb dL_many_16 hl (by decide) rfl (fun ls hl => ?_)
  refine lv_iconst (v := 1) hx hb dL_many_18 (by decide) ?_
  have hP9 := hP.sub (ws' := [(o, .inr (3, [.ref q1, .ref q2, .ref q3, .ref q4])), (q1, .inl (cI, 12, .inl hf)), (q2, .inl (cZ, 12, .inl bf)), (qL, .inl (cL, 1, .inr (.inl lf)))]) [0, 1, 2, 3] rfl
  have hD9 := hD.sub (ws' := [(o, .inr (3, [.ref q1, .ref q2, .ref q3, .ref q4])), (q1, .inl (cI, 12, .inl hf)), (q2, .inl (cZ, 12, .inl bf)), (qL, .inl (cL, 1, .inr (.inl lf)))]) [0, 1, 2, 3] (by decide) rfl
  refine W.widen (k := 1) (n := 6) (Nat.le_of_ble_eq_true rfl) (Nat.le_of_ble_eq_true rfl) ?_
  exact W.iret (v := 1) hx hb hr (fun t ht hW => ⟨⟨1, (), rfl, (rfl), by rw [ht]; exact hP9, va_K.moved hW.alike hK, hD9⟩, hS.F ht⟩) hS.2.2 dL_many_19
set_option maxHeartbeats 4000000 in
set_option maxRecDepth 100000 in
theorem c_L_many_no0 (l : Launch) (D : va_G) (cI : ClassId) (cZ : ClassId) (o : Nat) (q1 : Nat) (q2 : Nat) (q3 : Nat) (q4 : Nat) (sz : Nat) (hf : Nat → Int32) (bf : Nat → Int32) (i0 : Int32) (i1 : Int32) (i2 : Int32) (i3 : Int32) (cL : ClassId) (qL : Nat) (lf : Nat → Int64) (gl : l.stackTraces = false) (gp0 : vp_in i0 12) (gp2 : vp_in i2 12) (gp3 : vp_in i3 12) (g0 : hf i3.toNatClampNeg = 0) : Met l yL_many wsL_many ({ frames := 8, cells := 1, slots := 6, locals := 136 }) (va_Pc [.ref o, .int i0, .int i1, .int i2, .int i3, .ref qL] (ny_pre D [(cI, .int), (cZ, .boolean), (cL, .long)] [(o, .inr (3, [.ref q1, .ref q2, .ref q3, .ref q4])), (q1, .inl (cI, 12, .inl hf)), (q2, .inl (cZ, 12, .inl bf)), (qL, .inl (cL, 1, .inr (.inl lf)))] sz)) (va_Qi (fun (r : Int32) (u : Unit) => r = 2) (fun (u : Unit) t => ny_at D [(cI, .int), (cZ, .boolean), (cL, .long)] (va_A [(o, .inr (3, [.ref q1, .ref q2, .ref q3, .ref q4])), (q1, .inl (cI, 12, .inl hf)), (q2, .inl (cZ, 12, .inl bf)), (qL, .inl (cL, 1, .inr (.inl lf)))] sz) [(o, .inr (3, [.ref q1, .ref q2, .ref q3, .ref q4])), (q1, .inl (cI, 12, .inl hf)), (q2, .inl (cZ, 12, .inl bf)), (qL, .inl (cL, 1, .inr (.inl lf)))] t) (va_A [(o, .inr (3, [.ref q1, .ref q2, .ref q3, .ref q4])), (q1, .inl (cI, 12, .inl hf)), (q2, .inl (cZ, 12, .inl bf)), (qL, .inl (cL, 1, .inr (.inl lf)))] sz)) 1 6 (va_A [(o, .inr (3, [.ref q1, .ref q2, .ref q3, .ref q4])), (q1, .inl (cI, 12, .inl hf)), (q2, .inl (cZ, 12, .inl bf)), (qL, .inl (cL, 1, .inr (.inl lf)))] sz) := by
  refine va_MetW (cc := cL_many) (maxL := 7) (ret := (some .int)) (by decide) rfl ?_
  intro p e s m args below meth c s₁ B hml hv
  obtain ⟨rfl, hsz, hP, hK, hD0, hE⟩ := hv
  have hx := B.exec
  have hb := B.bytes
  have hr := B.returns
  have hts := atoms_spec (ws := wsL_many) B.pre
  have hown : s.vm.findClass RL = some m.cls := findClass_of_methodNamed B.named
  have hlocks := B.notSynchronized
  have htab := vx_table (x := yL_many) B (hts _ List.mem_cons_self)
  subst hsz
  have hD := hD0.self (sz := s.heap.size)
  generalize hAe : va_A [(o, .inr (3, [.ref q1, .ref q2, .ref q3, .ref q4])), (q1, .inl (cI, 12, .inl hf)), (q2, .inl (cZ, 12, .inl bf)), (qL, .inl (cL, 1, .inr (.inl lf)))] s.heap.size = A at hD hE ⊢
  have hA : ∀ q : Nat, s.heap.size ≤ q → A q := fun q h => by rw [← hAe]; exact Or.inr h
  have hS : va_S A s.heap s.heap [] := va_S.rf
  have hl := lv_entry ([.ref o, .int i0, .int i1, .int i2, .int i3, .ref qL]) (n := 7) (Nat.le_of_ble_eq_true rfl)
  rw [lg_entry_eq]
  generalize (lg_sl ([.ref o, .int i0, .int i1, .int i2, .int i3, .ref qL]) ++ List.replicate (7 - (lg_sl ([.ref o, .int i0, .int i1, .int i2, .int i3, .ref qL])).length) Slot.unset).toArray = ls at hl ⊢
  have hl : lv_has ls 7 [(0, .ref o), (1, .int i0), (2, .int i1), (3, .int i2), (4, .int i3), (5, .ref qL)] := hl
  refine lv_aload hx hb dL_many_0 (lv_at hl 5 rfl) ?_
  refine lv_iconst (v := 0) hx hb dL_many_2 (by decide) ?_
  refine lv_aload_n hx hb dL_many_3 rfl (lv_at hl 0 rfl) ?_
  refine lv_iload_n hx hb dL_many_4 rfl (lv_at hl 1 rfl) ?_
  refine lv_iload_n hx hb dL_many_5 rfl (lv_at hl 2 rfl) ?_
  refine lv_iload_n hx hb dL_many_6 rfl (lv_at hl 3 rfl) ?_
  refine lv_iload hx hb dL_many_7 (lv_at hl 4 rfl) ?_
  refine ny_x hS (va_free (wc := [(o, .inr (3, [.ref q1, .ref q2, .ref q3, .ref q4])), (q1, .inl (cI, 12, .inl hf)), (q2, .inl (cZ, 12, .inl bf))]) hD hS hA [0, 1, 2] rfl) (vx_runV (As := [.int i0, .int i1, .int i2, .int i3]) (rest := [.int 0, .ref qL]) ⟨hx, hb, hml, hown, hts⟩ (c_X1_many_no0 l D cI cZ o q1 q2 q3 q4 s.heap.size hf bf i0 i1 i2 i3 (by assumption) (by assumption) (by assumption) (by assumption) (by assumption)) (cwV 4 hts gL_many_X1_many rfl rfl rfl (by decide +kernel) ⟨Nat.le_of_ble_eq_true rfl, Nat.le_of_ble_eq_true rfl⟩) ⟨ny_blind, va_recv hK hP (ci := 3) (q0 := 0) rfl rfl, fun U hU hW => ⟨rfl, ny_preU hE hP hK hD hS hA [0, 1, 2] rfl (by decide) rfl [0, 1] rfl U hU hW⟩⟩ rfl rfl hl.1 rfl (lv_room (Nat.le_of_ble_eq_true rfl)) dL_many_9 ⟨Nat.le_of_ble_eq_true rfl, Nat.le_of_ble_eq_true rfl⟩) (fun ce q9 H locs hz9 hk9 hS hc9 hv9 hn9 => ?_)
  have hP : va_P D vwCl [(o, .inr (3, [.ref q1, .ref q2, .ref q3, .ref q4])), (q1, .inl (cI, 12, .inl hf)), (q2, .inl (cZ, 12, .inl bf)), (qL, .inl (cL, 1, .inr (.inl lf)))] H := ny_keep hP hk9
  refine vx_catch (own := RL) (name := ny_AE) (E := ny_AE) hown (tableOf [(0, 13, 16, 13)]) ⟨0, 13, 20, 39⟩ (tableOf []) (htab.trans rfl) (List.forall_mem_cons.mpr ⟨Or.inr ⟨(by decide), ny_IO, (hts (.classLink RL 13 "java/lang/IndexOutOfBoundsException") (List.mem_of_getElem? (i := 1) rfl)), (hE.2.2.2.2.2.1 _ (List.mem_of_getElem? (i := 0) rfl))⟩, (fun z hz => absurd hz List.not_mem_nil)⟩) (by decide) (by decide) (hts (.classLink RL 39 "java/lang/ArithmeticException") (List.mem_of_getElem? (i := 2) rfl)) (va_Nw.use rfl (hE.2.2.2.2.1 _ (List.mem_of_getElem? (i := 2) rfl))) hc9 hv9 hn9 ?_
  refine W.eq (g2 := F0 m 20 ls [.ref q9]) rfl ?_
  refine lv_astore (lv' := [(6, .ref q9), (0, .ref o), (1, .int i0), (2, .int i1), (3, .int i2), (4, .int i3), (5, .ref qL)]) hx hb dL_many_20 hl (by decide) rfl (fun ls hl => ?_)
  refine lv_iconst (v := 2) hx hb dL_many_22 (by decide) ?_
  have hP9 := hP.sub (ws' := [(o, .inr (3, [.ref q1, .ref q2, .ref q3, .ref q4])), (q1, .inl (cI, 12, .inl hf)), (q2, .inl (cZ, 12, .inl bf)), (qL, .inl (cL, 1, .inr (.inl lf)))]) [0, 1, 2, 3] rfl
  have hD9 := hD.sub (ws' := [(o, .inr (3, [.ref q1, .ref q2, .ref q3, .ref q4])), (q1, .inl (cI, 12, .inl hf)), (q2, .inl (cZ, 12, .inl bf)), (qL, .inl (cL, 1, .inr (.inl lf)))]) [0, 1, 2, 3] (by decide) rfl
  refine W.widen (k := 1) (n := 6) (Nat.le_of_ble_eq_true rfl) (Nat.le_of_ble_eq_true rfl) ?_
  exact W.iret (v := 2) hx hb hr (fun t ht hW => ⟨⟨2, (), rfl, (rfl), by rw [ht]; exact hP9, va_K.moved hW.alike hK, hD9⟩, hS.F ht⟩) hS.2.2 dL_many_23
set_option maxHeartbeats 4000000 in
set_option maxRecDepth 100000 in
theorem c_L_product (l : Launch) (D : va_G) (cI : ClassId) (cZ : ClassId) (o : Nat) (q1 : Nat) (q2 : Nat) (q3 : Nat) (q4 : Nat) (sz : Nat) (hf : Nat → Int32) (bf : Nat → Int32) (i0 : Int32) (i1 : Int32) (i2 : Int32) (i3 : Int32) (cL : ClassId) (qL : Nat) (lf : Nat → Int64) (gp0 : vp_in i0 12) (gp1 : vp_in i1 12) (gp2 : vp_in i2 12) (gp3 : vp_in i3 12) (g0 : ¬ hf i3.toNatClampNeg = 0) (gH : ny_H hf) : Met l yL_product wsL_product ({ frames := 6, cells := 0, slots := 0, locals := 143 }) (va_Pc [.ref o, .int i0, .int i1, .int i2, .int i3, .ref qL] (ny_pre D [(cI, .int), (cZ, .boolean), (cL, .long)] [(o, .inr (3, [.ref q1, .ref q2, .ref q3, .ref q4])), (q1, .inl (cI, 12, .inl hf)), (q2, .inl (cZ, 12, .inl bf)), (qL, .inl (cL, 1, .inr (.inl lf)))] sz)) (va_Qi (fun (r : Int32) (u : Unit) => r = 0) (fun (u : Unit) t => ny_at D [(cI, .int), (cZ, .boolean), (cL, .long)] (va_A [(o, .inr (3, [.ref q1, .ref q2, .ref q3, .ref q4])), (q1, .inl (cI, 12, .inl hf)), (q2, .inl (cZ, 12, .inl bf)), (qL, .inl (cL, 1, .inr (.inl lf)))] sz) [(o, .inr (3, [.ref q1, .ref q2, .ref q3, .ref q4])), (q1, .inl (cI, 12, .inl (upd hf i0.toNatClampNeg (f_rs ((hf i1.toNatClampNeg * hf i2.toNatClampNeg).toInt64) (hf i3.toNatClampNeg))))), (q2, .inl (cZ, 12, .inl (upd bf i0.toNatClampNeg 0))), (qL, .inl (cL, 1, .inr (.inl (vp_updL lf (0 : Int32).toNatClampNeg (f_bt (f_rs ((hf i1.toNatClampNeg * hf i2.toNatClampNeg).toInt64) (hf i3.toNatClampNeg)) 0)))))] t) (va_A [(o, .inr (3, [.ref q1, .ref q2, .ref q3, .ref q4])), (q1, .inl (cI, 12, .inl hf)), (q2, .inl (cZ, 12, .inl bf)), (qL, .inl (cL, 1, .inr (.inl lf)))] sz)) 0 0 (va_A [(o, .inr (3, [.ref q1, .ref q2, .ref q3, .ref q4])), (q1, .inl (cI, 12, .inl hf)), (q2, .inl (cZ, 12, .inl bf)), (qL, .inl (cL, 1, .inr (.inl lf)))] sz) := by
  refine va_MetW (cc := cL_product) (maxL := 7) (ret := (some .int)) (by decide) rfl ?_
  intro p e s m args below meth c s₁ B hml hv
  obtain ⟨rfl, hsz, hP, hK, hD0, hE⟩ := hv
  have hx := B.exec
  have hb := B.bytes
  have hr := B.returns
  have hts := atoms_spec (ws := wsL_product) B.pre
  have hown : s.vm.findClass RL = some m.cls := findClass_of_methodNamed B.named
  have hlocks := B.notSynchronized
  have htab := vx_table (x := yL_product) B (hts _ List.mem_cons_self)
  subst hsz
  have hD := hD0.self (sz := s.heap.size)
  generalize hAe : va_A [(o, .inr (3, [.ref q1, .ref q2, .ref q3, .ref q4])), (q1, .inl (cI, 12, .inl hf)), (q2, .inl (cZ, 12, .inl bf)), (qL, .inl (cL, 1, .inr (.inl lf)))] s.heap.size = A at hD hE ⊢
  have hA : ∀ q : Nat, s.heap.size ≤ q → A q := fun q h => by rw [← hAe]; exact Or.inr h
  have hS : va_S A s.heap s.heap [] := va_S.rf
  have hl := lv_entry ([.ref o, .int i0, .int i1, .int i2, .int i3, .ref qL]) (n := 7) (Nat.le_of_ble_eq_true rfl)
  rw [lg_entry_eq]
  generalize (lg_sl ([.ref o, .int i0, .int i1, .int i2, .int i3, .ref qL]) ++ List.replicate (7 - (lg_sl ([.ref o, .int i0, .int i1, .int i2, .int i3, .ref qL])).length) Slot.unset).toArray = ls at hl ⊢
  have hl : lv_has ls 7 [(0, .ref o), (1, .int i0), (2, .int i1), (3, .int i2), (4, .int i3), (5, .ref qL)] := hl
  refine lv_aload hx hb dL_product_0 (lv_at hl 5 rfl) ?_
  refine lv_iconst (v := 0) hx hb dL_product_2 (by decide) ?_
  refine lv_aload_n hx hb dL_product_3 rfl (lv_at hl 0 rfl) ?_
  refine lv_iload_n hx hb dL_product_4 rfl (lv_at hl 1 rfl) ?_
  refine lv_iload_n hx hb dL_product_5 rfl (lv_at hl 2 rfl) ?_
  refine lv_iload_n hx hb dL_product_6 rfl (lv_at hl 3 rfl) ?_
  refine lv_iload hx hb dL_product_7 (lv_at hl 4 rfl) ?_
  refine ny_l (wc := [(o, .inr (3, [.ref q1, .ref q2, .ref q3, .ref q4])), (q1, .inl (cI, 12, .inl hf)), (q2, .inl (cZ, 12, .inl bf))]) (wr := [(qL, .inl (cL, 1, .inr (.inl lf)))]) hP hD hS hA [0, 1, 2] [3] rfl rfl (by decide) (by decide) (va_runV (As := [.int i0, .int i1, .int i2, .int i3]) (rest := [.int 0, .ref qL]) ⟨hx, hb, hml, hown, hts⟩ (c_X1_product l D cI cZ o q1 q2 q3 q4 s.heap.size hf bf i0 i1 i2 i3 (by assumption) (by assumption) (by assumption) (by assumption) (by assumption) (by assumption)) (cwV 4 hts gL_product_X1_product rfl rfl rfl (by decide +kernel) ⟨Nat.le_of_ble_eq_true rfl, Nat.le_of_ble_eq_true rfl⟩) ⟨ny_blind, va_recv hK hP (ci := 3) (q0 := 0) rfl rfl, fun U hU hW => ⟨rfl, ny_preU hE hP hK hD hS hA [0, 1, 2] rfl (by decide) rfl [0, 1] rfl U hU hW⟩⟩ rfl rfl hl.1 rfl (lv_room (Nat.le_of_ble_eq_true rfl)) dL_product_9 ⟨Nat.le_of_ble_eq_true rfl, Nat.le_of_ble_eq_true rfl⟩) (fun r_9 u H locs hw_9 hP hD hS => ?_)
  have hP : va_P D vwCl [(qL, .inl (cL, 1, .inr (.inl lf))), (o, .inr (3, [.ref q1, .ref q2, .ref q3, .ref q4])), (q1, .inl (cI, 12, .inl (upd hf i0.toNatClampNeg (f_rs ((hf i1.toNatClampNeg * hf i2.toNatClampNeg).toInt64) (hf i3.toNatClampNeg))))), (q2, .inl (cZ, 12, .inl (upd bf i0.toNatClampNeg 0)))] H := hP
  have hD : va_D A [(qL, .inl (cL, 1, .inr (.inl lf))), (o, .inr (3, [.ref q1, .ref q2, .ref q3, .ref q4])), (q1, .inl (cI, 12, .inl (upd hf i0.toNatClampNeg (f_rs ((hf i1.toNatClampNeg * hf i2.toNatClampNeg).toInt64) (hf i3.toNatClampNeg))))), (q2, .inl (cZ, 12, .inl (upd bf i0.toNatClampNeg 0)))] := hD
  have hw_9 : r_9 = f_bt (f_rs ((hf i1.toNatClampNeg * hf i2.toNatClampNeg).toInt64) (hf i3.toNatClampNeg)) 0 := hw_9
  subst hw_9
  refine va_last hx hb hK hP hD hS 0 2 rfl rfl (vp_in_iff.mpr (by decide)) dL_product_12 (fun H locs hP hD hS => ?_)
  have hP : va_P D vwCl [(qL, .inl (cL, 1, .inr (.inl (vp_updL lf (0 : Int32).toNatClampNeg (f_bt (f_rs ((hf i1.toNatClampNeg * hf i2.toNatClampNeg).toInt64) (hf i3.toNatClampNeg)) 0))))), (o, .inr (3, [.ref q1, .ref q2, .ref q3, .ref q4])), (q1, .inl (cI, 12, .inl (upd hf i0.toNatClampNeg (f_rs ((hf i1.toNatClampNeg * hf i2.toNatClampNeg).toInt64) (hf i3.toNatClampNeg))))), (q2, .inl (cZ, 12, .inl (upd bf i0.toNatClampNeg 0)))] H := hP
  have hD : va_D A [(qL, .inl (cL, 1, .inr (.inl (vp_updL lf (0 : Int32).toNatClampNeg (f_bt (f_rs ((hf i1.toNatClampNeg * hf i2.toNatClampNeg).toInt64) (hf i3.toNatClampNeg)) 0))))), (o, .inr (3, [.ref q1, .ref q2, .ref q3, .ref q4])), (q1, .inl (cI, 12, .inl (upd hf i0.toNatClampNeg (f_rs ((hf i1.toNatClampNeg * hf i2.toNatClampNeg).toInt64) (hf i3.toNatClampNeg))))), (q2, .inl (cZ, 12, .inl (upd bf i0.toNatClampNeg 0)))] := hD
  refine lv_goto (tgt := 24) hx hb dL_product_13 (by decide) ?_
  refine lv_iconst (v := 0) hx hb dL_product_24 (by decide) ?_
  have hP9 := hP.sub (ws' := [(o, .inr (3, [.ref q1, .ref q2, .ref q3, .ref q4])), (q1, .inl (cI, 12, .inl (upd hf i0.toNatClampNeg (f_rs ((hf i1.toNatClampNeg * hf i2.toNatClampNeg).toInt64) (hf i3.toNatClampNeg))))), (q2, .inl (cZ, 12, .inl (upd bf i0.toNatClampNeg 0))), (qL, .inl (cL, 1, .inr (.inl (vp_updL lf (0 : Int32).toNatClampNeg (f_bt (f_rs ((hf i1.toNatClampNeg * hf i2.toNatClampNeg).toInt64) (hf i3.toNatClampNeg)) 0)))))]) [1, 2, 3, 0] rfl
  have hD9 := hD.sub (ws' := [(o, .inr (3, [.ref q1, .ref q2, .ref q3, .ref q4])), (q1, .inl (cI, 12, .inl (upd hf i0.toNatClampNeg (f_rs ((hf i1.toNatClampNeg * hf i2.toNatClampNeg).toInt64) (hf i3.toNatClampNeg))))), (q2, .inl (cZ, 12, .inl (upd bf i0.toNatClampNeg 0))), (qL, .inl (cL, 1, .inr (.inl (vp_updL lf (0 : Int32).toNatClampNeg (f_bt (f_rs ((hf i1.toNatClampNeg * hf i2.toNatClampNeg).toInt64) (hf i3.toNatClampNeg)) 0)))))]) [1, 2, 3, 0] (by decide) rfl
  exact W.iret (v := 0) hx hb hr (fun t ht hW => ⟨⟨0, (), rfl, (rfl), by rw [ht]; exact hP9, va_K.moved hW.alike hK, hD9⟩, hS.F ht⟩) hS.2.2 dL_product_25
set_option maxHeartbeats 4000000 in
set_option maxRecDepth 100000 in
theorem c_L_product_noP (l : Launch) (D : va_G) (cI : ClassId) (cZ : ClassId) (o : Nat) (q1 : Nat) (q2 : Nat) (q3 : Nat) (q4 : Nat) (sz : Nat) (hf : Nat → Int32) (bf : Nat → Int32) (i0 : Int32) (i1 : Int32) (i2 : Int32) (i3 : Int32) (cL : ClassId) (qL : Nat) (lf : Nat → Int64) (gl : l.stackTraces = false) (gb : ¬ vp_in i0 12 ∨ (¬ vp_in i2 12 ∨ (¬ vp_in i1 12 ∨ ¬ vp_in i3 12))) : Met l yL_product wsL_product ({ frames := 9, cells := 1, slots := 6, locals := 156 }) (va_Pc [.ref o, .int i0, .int i1, .int i2, .int i3, .ref qL] (ny_pre D [(cI, .int), (cZ, .boolean), (cL, .long)] [(o, .inr (3, [.ref q1, .ref q2, .ref q3, .ref q4])), (q1, .inl (cI, 12, .inl hf)), (q2, .inl (cZ, 12, .inl bf)), (qL, .inl (cL, 1, .inr (.inl lf)))] sz)) (va_Qi (fun (r : Int32) (u : Unit) => r = 1) (fun (u : Unit) t => ny_at D [(cI, .int), (cZ, .boolean), (cL, .long)] (va_A [(o, .inr (3, [.ref q1, .ref q2, .ref q3, .ref q4])), (q1, .inl (cI, 12, .inl hf)), (q2, .inl (cZ, 12, .inl bf)), (qL, .inl (cL, 1, .inr (.inl lf)))] sz) [(o, .inr (3, [.ref q1, .ref q2, .ref q3, .ref q4])), (q1, .inl (cI, 12, .inl hf)), (q2, .inl (cZ, 12, .inl bf)), (qL, .inl (cL, 1, .inr (.inl lf)))] t) (va_A [(o, .inr (3, [.ref q1, .ref q2, .ref q3, .ref q4])), (q1, .inl (cI, 12, .inl hf)), (q2, .inl (cZ, 12, .inl bf)), (qL, .inl (cL, 1, .inr (.inl lf)))] sz)) 1 6 (va_A [(o, .inr (3, [.ref q1, .ref q2, .ref q3, .ref q4])), (q1, .inl (cI, 12, .inl hf)), (q2, .inl (cZ, 12, .inl bf)), (qL, .inl (cL, 1, .inr (.inl lf)))] sz) := by
  refine va_MetW (cc := cL_product) (maxL := 7) (ret := (some .int)) (by decide) rfl ?_
  intro p e s m args below meth c s₁ B hml hv
  obtain ⟨rfl, hsz, hP, hK, hD0, hE⟩ := hv
  have hx := B.exec
  have hb := B.bytes
  have hr := B.returns
  have hts := atoms_spec (ws := wsL_product) B.pre
  have hown : s.vm.findClass RL = some m.cls := findClass_of_methodNamed B.named
  have hlocks := B.notSynchronized
  have htab := vx_table (x := yL_product) B (hts _ List.mem_cons_self)
  subst hsz
  have hD := hD0.self (sz := s.heap.size)
  generalize hAe : va_A [(o, .inr (3, [.ref q1, .ref q2, .ref q3, .ref q4])), (q1, .inl (cI, 12, .inl hf)), (q2, .inl (cZ, 12, .inl bf)), (qL, .inl (cL, 1, .inr (.inl lf)))] s.heap.size = A at hD hE ⊢
  have hA : ∀ q : Nat, s.heap.size ≤ q → A q := fun q h => by rw [← hAe]; exact Or.inr h
  have hS : va_S A s.heap s.heap [] := va_S.rf
  have hl := lv_entry ([.ref o, .int i0, .int i1, .int i2, .int i3, .ref qL]) (n := 7) (Nat.le_of_ble_eq_true rfl)
  rw [lg_entry_eq]
  generalize (lg_sl ([.ref o, .int i0, .int i1, .int i2, .int i3, .ref qL]) ++ List.replicate (7 - (lg_sl ([.ref o, .int i0, .int i1, .int i2, .int i3, .ref qL])).length) Slot.unset).toArray = ls at hl ⊢
  have hl : lv_has ls 7 [(0, .ref o), (1, .int i0), (2, .int i1), (3, .int i2), (4, .int i3), (5, .ref qL)] := hl
  refine lv_aload hx hb dL_product_0 (lv_at hl 5 rfl) ?_
  refine lv_iconst (v := 0) hx hb dL_product_2 (by decide) ?_
  refine lv_aload_n hx hb dL_product_3 rfl (lv_at hl 0 rfl) ?_
  refine lv_iload_n hx hb dL_product_4 rfl (lv_at hl 1 rfl) ?_
  refine lv_iload_n hx hb dL_product_5 rfl (lv_at hl 2 rfl) ?_
  refine lv_iload_n hx hb dL_product_6 rfl (lv_at hl 3 rfl) ?_
  refine lv_iload hx hb dL_product_7 (lv_at hl 4 rfl) ?_
  refine ny_x hS (va_free (wc := [(o, .inr (3, [.ref q1, .ref q2, .ref q3, .ref q4])), (q1, .inl (cI, 12, .inl hf)), (q2, .inl (cZ, 12, .inl bf))]) hD hS hA [0, 1, 2] rfl) (vx_runV (As := [.int i0, .int i1, .int i2, .int i3]) (rest := [.int 0, .ref qL]) ⟨hx, hb, hml, hown, hts⟩ (c_X1_product_noP l D cI cZ o q1 q2 q3 q4 s.heap.size hf bf i0 i1 i2 i3 (by assumption) (by assumption)) (cwV 4 hts gL_product_X1_product rfl rfl rfl (by decide +kernel) ⟨Nat.le_of_ble_eq_true rfl, Nat.le_of_ble_eq_true rfl⟩) ⟨ny_blind, va_recv hK hP (ci := 3) (q0 := 0) rfl rfl, fun U hU hW => ⟨rfl, ny_preU hE hP hK hD hS hA [0, 1, 2] rfl (by decide) rfl [0, 1] rfl U hU hW⟩⟩ rfl rfl hl.1 rfl (lv_room (Nat.le_of_ble_eq_true rfl)) dL_product_9 ⟨Nat.le_of_ble_eq_true rfl, Nat.le_of_ble_eq_true rfl⟩) (fun ce q9 H locs hz9 hk9 hS hc9 hv9 hn9 => ?_)
  have hP : va_P D vwCl [(o, .inr (3, [.ref q1, .ref q2, .ref q3, .ref q4])), (q1, .inl (cI, 12, .inl hf)), (q2, .inl (cZ, 12, .inl bf)), (qL, .inl (cL, 1, .inr (.inl lf)))] H := ny_keep hP hk9
  refine vx_catch (own := RL) (name := ny_IO) (E := ny_IO) hown (tableOf []) ⟨0, 13, 16, 13⟩ (tableOf [(0, 13, 20, 39)]) (htab.trans rfl) (fun z hz => absurd hz List.not_mem_nil) (by decide) (by decide) (hts (.classLink RL 13 "java/lang/IndexOutOfBoundsException") (List.mem_of_getElem? (i := 1) rfl)) (va_Nw.use rfl (hE.2.2.2.2.1 _ (List.mem_of_getElem? (i := 0) rfl))) hc9 hv9 hn9 ?_
  refine W.eq (g2 := F0 m 16 ls [.ref q9]) rfl ?_
  refine lv_astore (lv' := [(6, .ref q9), (0, .ref o), (1, .int i0), (2, .int i1), (3, .int i2), (4, .int i3), (5, .ref qL)]) hx hb dL_product_16 hl (by decide) rfl (fun ls hl => ?_)
  refine lv_iconst (v := 1) hx hb dL_product_18 (by decide) ?_
  have hP9 := hP.sub (ws' := [(o, .inr (3, [.ref q1, .ref q2, .ref q3, .ref q4])), (q1, .inl (cI, 12, .inl hf)), (q2, .inl (cZ, 12, .inl bf)), (qL, .inl (cL, 1, .inr (.inl lf)))]) [0, 1, 2, 3] rfl
  have hD9 := hD.sub (ws' := [(o, .inr (3, [.ref q1, .ref q2, .ref q3, .ref q4])), (q1, .inl (cI, 12, .inl hf)), (q2, .inl (cZ, 12, .inl bf)), (qL, .inl (cL, 1, .inr (.inl lf)))]) [0, 1, 2, 3] (by decide) rfl
  refine W.widen (k := 1) (n := 6) (Nat.le_of_ble_eq_true rfl) (Nat.le_of_ble_eq_true rfl) ?_
  exact W.iret (v := 1) hx hb hr (fun t ht hW => ⟨⟨1, (), rfl, (rfl), by rw [ht]; exact hP9, va_K.moved hW.alike hK, hD9⟩, hS.F ht⟩) hS.2.2 dL_product_19
set_option maxHeartbeats 4000000 in
set_option maxRecDepth 100000 in
theorem c_L_product_no0 (l : Launch) (D : va_G) (cI : ClassId) (cZ : ClassId) (o : Nat) (q1 : Nat) (q2 : Nat) (q3 : Nat) (q4 : Nat) (sz : Nat) (hf : Nat → Int32) (bf : Nat → Int32) (i0 : Int32) (i1 : Int32) (i2 : Int32) (i3 : Int32) (cL : ClassId) (qL : Nat) (lf : Nat → Int64) (gl : l.stackTraces = false) (gp0 : vp_in i0 12) (gp1 : vp_in i1 12) (gp2 : vp_in i2 12) (gp3 : vp_in i3 12) (g0 : hf i3.toNatClampNeg = 0) : Met l yL_product wsL_product ({ frames := 8, cells := 1, slots := 6, locals := 136 }) (va_Pc [.ref o, .int i0, .int i1, .int i2, .int i3, .ref qL] (ny_pre D [(cI, .int), (cZ, .boolean), (cL, .long)] [(o, .inr (3, [.ref q1, .ref q2, .ref q3, .ref q4])), (q1, .inl (cI, 12, .inl hf)), (q2, .inl (cZ, 12, .inl bf)), (qL, .inl (cL, 1, .inr (.inl lf)))] sz)) (va_Qi (fun (r : Int32) (u : Unit) => r = 2) (fun (u : Unit) t => ny_at D [(cI, .int), (cZ, .boolean), (cL, .long)] (va_A [(o, .inr (3, [.ref q1, .ref q2, .ref q3, .ref q4])), (q1, .inl (cI, 12, .inl hf)), (q2, .inl (cZ, 12, .inl bf)), (qL, .inl (cL, 1, .inr (.inl lf)))] sz) [(o, .inr (3, [.ref q1, .ref q2, .ref q3, .ref q4])), (q1, .inl (cI, 12, .inl hf)), (q2, .inl (cZ, 12, .inl bf)), (qL, .inl (cL, 1, .inr (.inl lf)))] t) (va_A [(o, .inr (3, [.ref q1, .ref q2, .ref q3, .ref q4])), (q1, .inl (cI, 12, .inl hf)), (q2, .inl (cZ, 12, .inl bf)), (qL, .inl (cL, 1, .inr (.inl lf)))] sz)) 1 6 (va_A [(o, .inr (3, [.ref q1, .ref q2, .ref q3, .ref q4])), (q1, .inl (cI, 12, .inl hf)), (q2, .inl (cZ, 12, .inl bf)), (qL, .inl (cL, 1, .inr (.inl lf)))] sz) := by
  refine va_MetW (cc := cL_product) (maxL := 7) (ret := (some .int)) (by decide) rfl ?_
  intro p e s m args below meth c s₁ B hml hv
  obtain ⟨rfl, hsz, hP, hK, hD0, hE⟩ := hv
  have hx := B.exec
  have hb := B.bytes
  have hr := B.returns
  have hts := atoms_spec (ws := wsL_product) B.pre
  have hown : s.vm.findClass RL = some m.cls := findClass_of_methodNamed B.named
  have hlocks := B.notSynchronized
  have htab := vx_table (x := yL_product) B (hts _ List.mem_cons_self)
  subst hsz
  have hD := hD0.self (sz := s.heap.size)
  generalize hAe : va_A [(o, .inr (3, [.ref q1, .ref q2, .ref q3, .ref q4])), (q1, .inl (cI, 12, .inl hf)), (q2, .inl (cZ, 12, .inl bf)), (qL, .inl (cL, 1, .inr (.inl lf)))] s.heap.size = A at hD hE ⊢
  have hA : ∀ q : Nat, s.heap.size ≤ q → A q := fun q h => by rw [← hAe]; exact Or.inr h
  have hS : va_S A s.heap s.heap [] := va_S.rf
  have hl := lv_entry ([.ref o, .int i0, .int i1, .int i2, .int i3, .ref qL]) (n := 7) (Nat.le_of_ble_eq_true rfl)
  rw [lg_entry_eq]
  generalize (lg_sl ([.ref o, .int i0, .int i1, .int i2, .int i3, .ref qL]) ++ List.replicate (7 - (lg_sl ([.ref o, .int i0, .int i1, .int i2, .int i3, .ref qL])).length) Slot.unset).toArray = ls at hl ⊢
  have hl : lv_has ls 7 [(0, .ref o), (1, .int i0), (2, .int i1), (3, .int i2), (4, .int i3), (5, .ref qL)] := hl
  refine lv_aload hx hb dL_product_0 (lv_at hl 5 rfl) ?_
  refine lv_iconst (v := 0) hx hb dL_product_2 (by decide) ?_
  refine lv_aload_n hx hb dL_product_3 rfl (lv_at hl 0 rfl) ?_
  refine lv_iload_n hx hb dL_product_4 rfl (lv_at hl 1 rfl) ?_
  refine lv_iload_n hx hb dL_product_5 rfl (lv_at hl 2 rfl) ?_
  refine lv_iload_n hx hb dL_product_6 rfl (lv_at hl 3 rfl) ?_
  refine lv_iload hx hb dL_product_7 (lv_at hl 4 rfl) ?_
  refine ny_x hS (va_free (wc := [(o, .inr (3, [.ref q1, .ref q2, .ref q3, .ref q4])), (q1, .inl (cI, 12, .inl hf)), (q2, .inl (cZ, 12, .inl bf))]) hD hS hA [0, 1, 2] rfl) (vx_runV (As := [.int i0, .int i1, .int i2, .int i3]) (rest := [.int 0, .ref qL]) ⟨hx, hb, hml, hown, hts⟩ (c_X1_product_no0 l D cI cZ o q1 q2 q3 q4 s.heap.size hf bf i0 i1 i2 i3 (by assumption) (by assumption) (by assumption) (by assumption) (by assumption) (by assumption)) (cwV 4 hts gL_product_X1_product rfl rfl rfl (by decide +kernel) ⟨Nat.le_of_ble_eq_true rfl, Nat.le_of_ble_eq_true rfl⟩) ⟨ny_blind, va_recv hK hP (ci := 3) (q0 := 0) rfl rfl, fun U hU hW => ⟨rfl, ny_preU hE hP hK hD hS hA [0, 1, 2] rfl (by decide) rfl [0, 1] rfl U hU hW⟩⟩ rfl rfl hl.1 rfl (lv_room (Nat.le_of_ble_eq_true rfl)) dL_product_9 ⟨Nat.le_of_ble_eq_true rfl, Nat.le_of_ble_eq_true rfl⟩) (fun ce q9 H locs hz9 hk9 hS hc9 hv9 hn9 => ?_)
  have hP : va_P D vwCl [(o, .inr (3, [.ref q1, .ref q2, .ref q3, .ref q4])), (q1, .inl (cI, 12, .inl hf)), (q2, .inl (cZ, 12, .inl bf)), (qL, .inl (cL, 1, .inr (.inl lf)))] H := ny_keep hP hk9
  refine vx_catch (own := RL) (name := ny_AE) (E := ny_AE) hown (tableOf [(0, 13, 16, 13)]) ⟨0, 13, 20, 39⟩ (tableOf []) (htab.trans rfl) (List.forall_mem_cons.mpr ⟨Or.inr ⟨(by decide), ny_IO, (hts (.classLink RL 13 "java/lang/IndexOutOfBoundsException") (List.mem_of_getElem? (i := 1) rfl)), (hE.2.2.2.2.2.1 _ (List.mem_of_getElem? (i := 0) rfl))⟩, (fun z hz => absurd hz List.not_mem_nil)⟩) (by decide) (by decide) (hts (.classLink RL 39 "java/lang/ArithmeticException") (List.mem_of_getElem? (i := 2) rfl)) (va_Nw.use rfl (hE.2.2.2.2.1 _ (List.mem_of_getElem? (i := 2) rfl))) hc9 hv9 hn9 ?_
  refine W.eq (g2 := F0 m 20 ls [.ref q9]) rfl ?_
  refine lv_astore (lv' := [(6, .ref q9), (0, .ref o), (1, .int i0), (2, .int i1), (3, .int i2), (4, .int i3), (5, .ref qL)]) hx hb dL_product_20 hl (by decide) rfl (fun ls hl => ?_)
  refine lv_iconst (v := 2) hx hb dL_product_22 (by decide) ?_
  have hP9 := hP.sub (ws' := [(o, .inr (3, [.ref q1, .ref q2, .ref q3, .ref q4])), (q1, .inl (cI, 12, .inl hf)), (q2, .inl (cZ, 12, .inl bf)), (qL, .inl (cL, 1, .inr (.inl lf)))]) [0, 1, 2, 3] rfl
  have hD9 := hD.sub (ws' := [(o, .inr (3, [.ref q1, .ref q2, .ref q3, .ref q4])), (q1, .inl (cI, 12, .inl hf)), (q2, .inl (cZ, 12, .inl bf)), (qL, .inl (cL, 1, .inr (.inl lf)))]) [0, 1, 2, 3] (by decide) rfl
  refine W.widen (k := 1) (n := 6) (Nat.le_of_ble_eq_true rfl) (Nat.le_of_ble_eq_true rfl) ?_
  exact W.iret (v := 2) hx hb hr (fun t ht hW => ⟨⟨2, (), rfl, (rfl), by rw [ht]; exact hP9, va_K.moved hW.alike hK, hD9⟩, hS.F ht⟩) hS.2.2 dL_product_23
set_option maxHeartbeats 4000000 in
set_option maxRecDepth 100000 in
theorem c_L_power (l : Launch) (D : va_G) (cI : ClassId) (cZ : ClassId) (o : Nat) (q1 : Nat) (q2 : Nat) (q3 : Nat) (q4 : Nat) (sz : Nat) (hf : Nat → Int32) (bf : Nat → Int32) (i0 : Int32) (i1 : Int32) (i2 : Int32) (i3 : Int32) (cL : ClassId) (qL : Nat) (lf : Nat → Int64) (gp0 : vp_in i0 12) (gp1 : vp_in i1 12) (gp3 : vp_in i3 12) (gn : 0 ≤ i2.toInt ∧ i2.toInt ≤ 1000) (g0 : ¬ hf i3.toNatClampNeg = 0) (gH : ny_H hf) : Met l yL_power wsL_power ({ frames := 6, cells := 0, slots := 0, locals := 143 }) (va_Pc [.ref o, .int i0, .int i1, .int i2, .int i3, .ref qL] (ny_pre D [(cI, .int), (cZ, .boolean), (cL, .long)] [(o, .inr (3, [.ref q1, .ref q2, .ref q3, .ref q4])), (q1, .inl (cI, 12, .inl hf)), (q2, .inl (cZ, 12, .inl bf)), (qL, .inl (cL, 1, .inr (.inl lf)))] sz)) (va_Qi (fun (r : Int32) (u : Unit) => r = 0) (fun (u : Unit) t => ny_at D [(cI, .int), (cZ, .boolean), (cL, .long)] (va_A [(o, .inr (3, [.ref q1, .ref q2, .ref q3, .ref q4])), (q1, .inl (cI, 12, .inl hf)), (q2, .inl (cZ, 12, .inl bf)), (qL, .inl (cL, 1, .inr (.inl lf)))] sz) [(o, .inr (3, [.ref q1, .ref q2, .ref q3, .ref q4])), (q1, .inl (cI, 12, .inl (upd hf i0.toNatClampNeg (f_pw (hf i1.toNatClampNeg) i2 (hf i3.toNatClampNeg))))), (q2, .inl (cZ, 12, .inl (upd bf i0.toNatClampNeg 0))), (qL, .inl (cL, 1, .inr (.inl (vp_updL lf (0 : Int32).toNatClampNeg (f_bt (f_pw (hf i1.toNatClampNeg) i2 (hf i3.toNatClampNeg)) 0)))))] t) (va_A [(o, .inr (3, [.ref q1, .ref q2, .ref q3, .ref q4])), (q1, .inl (cI, 12, .inl hf)), (q2, .inl (cZ, 12, .inl bf)), (qL, .inl (cL, 1, .inr (.inl lf)))] sz)) 0 0 (va_A [(o, .inr (3, [.ref q1, .ref q2, .ref q3, .ref q4])), (q1, .inl (cI, 12, .inl hf)), (q2, .inl (cZ, 12, .inl bf)), (qL, .inl (cL, 1, .inr (.inl lf)))] sz) := by
  refine va_MetW (cc := cL_power) (maxL := 7) (ret := (some .int)) (by decide) rfl ?_
  intro p e s m args below meth c s₁ B hml hv
  obtain ⟨rfl, hsz, hP, hK, hD0, hE⟩ := hv
  have hx := B.exec
  have hb := B.bytes
  have hr := B.returns
  have hts := atoms_spec (ws := wsL_power) B.pre
  have hown : s.vm.findClass RL = some m.cls := findClass_of_methodNamed B.named
  have hlocks := B.notSynchronized
  have htab := vx_table (x := yL_power) B (hts _ List.mem_cons_self)
  subst hsz
  have hD := hD0.self (sz := s.heap.size)
  generalize hAe : va_A [(o, .inr (3, [.ref q1, .ref q2, .ref q3, .ref q4])), (q1, .inl (cI, 12, .inl hf)), (q2, .inl (cZ, 12, .inl bf)), (qL, .inl (cL, 1, .inr (.inl lf)))] s.heap.size = A at hD hE ⊢
  have hA : ∀ q : Nat, s.heap.size ≤ q → A q := fun q h => by rw [← hAe]; exact Or.inr h
  have hS : va_S A s.heap s.heap [] := va_S.rf
  have hl := lv_entry ([.ref o, .int i0, .int i1, .int i2, .int i3, .ref qL]) (n := 7) (Nat.le_of_ble_eq_true rfl)
  rw [lg_entry_eq]
  generalize (lg_sl ([.ref o, .int i0, .int i1, .int i2, .int i3, .ref qL]) ++ List.replicate (7 - (lg_sl ([.ref o, .int i0, .int i1, .int i2, .int i3, .ref qL])).length) Slot.unset).toArray = ls at hl ⊢
  have hl : lv_has ls 7 [(0, .ref o), (1, .int i0), (2, .int i1), (3, .int i2), (4, .int i3), (5, .ref qL)] := hl
  refine lv_aload hx hb dL_power_0 (lv_at hl 5 rfl) ?_
  refine lv_iconst (v := 0) hx hb dL_power_2 (by decide) ?_
  refine lv_aload_n hx hb dL_power_3 rfl (lv_at hl 0 rfl) ?_
  refine lv_iload_n hx hb dL_power_4 rfl (lv_at hl 1 rfl) ?_
  refine lv_iload_n hx hb dL_power_5 rfl (lv_at hl 2 rfl) ?_
  refine lv_iload_n hx hb dL_power_6 rfl (lv_at hl 3 rfl) ?_
  refine lv_iload hx hb dL_power_7 (lv_at hl 4 rfl) ?_
  refine ny_l (wc := [(o, .inr (3, [.ref q1, .ref q2, .ref q3, .ref q4])), (q1, .inl (cI, 12, .inl hf)), (q2, .inl (cZ, 12, .inl bf))]) (wr := [(qL, .inl (cL, 1, .inr (.inl lf)))]) hP hD hS hA [0, 1, 2] [3] rfl rfl (by decide) (by decide) (va_runV (As := [.int i0, .int i1, .int i2, .int i3]) (rest := [.int 0, .ref qL]) ⟨hx, hb, hml, hown, hts⟩ (c_X1_power l D cI cZ o q1 q2 q3 q4 s.heap.size hf bf i0 i1 i2 i3 (by assumption) (by assumption) (by assumption) (by assumption) (by assumption) (by assumption)) (cwV 4 hts gL_power_X1_power rfl rfl rfl (by decide +kernel) ⟨Nat.le_of_ble_eq_true rfl, Nat.le_of_ble_eq_true rfl⟩) ⟨ny_blind, va_recv hK hP (ci := 3) (q0 := 0) rfl rfl, fun U hU hW => ⟨rfl, ny_preU hE hP hK hD hS hA [0, 1, 2] rfl (by decide) rfl [0, 1] rfl U hU hW⟩⟩ rfl rfl hl.1 rfl (lv_room (Nat.le_of_ble_eq_true rfl)) dL_power_9 ⟨Nat.le_of_ble_eq_true rfl, Nat.le_of_ble_eq_true rfl⟩) (fun r_9 u H locs hw_9 hP hD hS => ?_)
  have hP : va_P D vwCl [(qL, .inl (cL, 1, .inr (.inl lf))), (o, .inr (3, [.ref q1, .ref q2, .ref q3, .ref q4])), (q1, .inl (cI, 12, .inl (upd hf i0.toNatClampNeg (f_pw (hf i1.toNatClampNeg) i2 (hf i3.toNatClampNeg))))), (q2, .inl (cZ, 12, .inl (upd bf i0.toNatClampNeg 0)))] H := hP
  have hD : va_D A [(qL, .inl (cL, 1, .inr (.inl lf))), (o, .inr (3, [.ref q1, .ref q2, .ref q3, .ref q4])), (q1, .inl (cI, 12, .inl (upd hf i0.toNatClampNeg (f_pw (hf i1.toNatClampNeg) i2 (hf i3.toNatClampNeg))))), (q2, .inl (cZ, 12, .inl (upd bf i0.toNatClampNeg 0)))] := hD
  have hw_9 : r_9 = f_bt (f_pw (hf i1.toNatClampNeg) i2 (hf i3.toNatClampNeg)) 0 := hw_9
  subst hw_9
  refine va_last hx hb hK hP hD hS 0 2 rfl rfl (vp_in_iff.mpr (by decide)) dL_power_12 (fun H locs hP hD hS => ?_)
  have hP : va_P D vwCl [(qL, .inl (cL, 1, .inr (.inl (vp_updL lf (0 : Int32).toNatClampNeg (f_bt (f_pw (hf i1.toNatClampNeg) i2 (hf i3.toNatClampNeg)) 0))))), (o, .inr (3, [.ref q1, .ref q2, .ref q3, .ref q4])), (q1, .inl (cI, 12, .inl (upd hf i0.toNatClampNeg (f_pw (hf i1.toNatClampNeg) i2 (hf i3.toNatClampNeg))))), (q2, .inl (cZ, 12, .inl (upd bf i0.toNatClampNeg 0)))] H := hP
  have hD : va_D A [(qL, .inl (cL, 1, .inr (.inl (vp_updL lf (0 : Int32).toNatClampNeg (f_bt (f_pw (hf i1.toNatClampNeg) i2 (hf i3.toNatClampNeg)) 0))))), (o, .inr (3, [.ref q1, .ref q2, .ref q3, .ref q4])), (q1, .inl (cI, 12, .inl (upd hf i0.toNatClampNeg (f_pw (hf i1.toNatClampNeg) i2 (hf i3.toNatClampNeg))))), (q2, .inl (cZ, 12, .inl (upd bf i0.toNatClampNeg 0)))] := hD
  refine lv_goto (tgt := 28) hx hb dL_power_13 (by decide) ?_
  refine lv_iconst (v := 0) hx hb dL_power_28 (by decide) ?_
  have hP9 := hP.sub (ws' := [(o, .inr (3, [.ref q1, .ref q2, .ref q3, .ref q4])), (q1, .inl (cI, 12, .inl (upd hf i0.toNatClampNeg (f_pw (hf i1.toNatClampNeg) i2 (hf i3.toNatClampNeg))))), (q2, .inl (cZ, 12, .inl (upd bf i0.toNatClampNeg 0))), (qL, .inl (cL, 1, .inr (.inl (vp_updL lf (0 : Int32).toNatClampNeg (f_bt (f_pw (hf i1.toNatClampNeg) i2 (hf i3.toNatClampNeg)) 0)))))]) [1, 2, 3, 0] rfl
  have hD9 := hD.sub (ws' := [(o, .inr (3, [.ref q1, .ref q2, .ref q3, .ref q4])), (q1, .inl (cI, 12, .inl (upd hf i0.toNatClampNeg (f_pw (hf i1.toNatClampNeg) i2 (hf i3.toNatClampNeg))))), (q2, .inl (cZ, 12, .inl (upd bf i0.toNatClampNeg 0))), (qL, .inl (cL, 1, .inr (.inl (vp_updL lf (0 : Int32).toNatClampNeg (f_bt (f_pw (hf i1.toNatClampNeg) i2 (hf i3.toNatClampNeg)) 0)))))]) [1, 2, 3, 0] (by decide) rfl
  exact W.iret (v := 0) hx hb hr (fun t ht hW => ⟨⟨0, (), rfl, (rfl), by rw [ht]; exact hP9, va_K.moved hW.alike hK, hD9⟩, hS.F ht⟩) hS.2.2 dL_power_29
set_option maxHeartbeats 4000000 in
set_option maxRecDepth 100000 in
theorem c_L_power_noP (l : Launch) (D : va_G) (cI : ClassId) (cZ : ClassId) (o : Nat) (q1 : Nat) (q2 : Nat) (q3 : Nat) (q4 : Nat) (sz : Nat) (hf : Nat → Int32) (bf : Nat → Int32) (i0 : Int32) (i1 : Int32) (i2 : Int32) (i3 : Int32) (cL : ClassId) (qL : Nat) (lf : Nat → Int64) (gl : l.stackTraces = false) (gb : ¬ vp_in i0 12 ∨ (¬ vp_in i1 12 ∨ ¬ vp_in i3 12)) : Met l yL_power wsL_power ({ frames := 8, cells := 1, slots := 6, locals := 134 }) (va_Pc [.ref o, .int i0, .int i1, .int i2, .int i3, .ref qL] (ny_pre D [(cI, .int), (cZ, .boolean), (cL, .long)] [(o, .inr (3, [.ref q1, .ref q2, .ref q3, .ref q4])), (q1, .inl (cI, 12, .inl hf)), (q2, .inl (cZ, 12, .inl bf)), (qL, .inl (cL, 1, .inr (.inl lf)))] sz)) (va_Qi (fun (r : Int32) (u : Unit) => r = 1) (fun (u : Unit) t => ny_at D [(cI, .int), (cZ, .boolean), (cL, .long)] (va_A [(o, .inr (3, [.ref q1, .ref q2, .ref q3, .ref q4])), (q1, .inl (cI, 12, .inl hf)), (q2, .inl (cZ, 12, .inl bf)), (qL, .inl (cL, 1, .inr (.inl lf)))] sz) [(o, .inr (3, [.ref q1, .ref q2, .ref q3, .ref q4])), (q1, .inl (cI, 12, .inl hf)), (q2, .inl (cZ, 12, .inl bf)), (qL, .inl (cL, 1, .inr (.inl lf)))] t) (va_A [(o, .inr (3, [.ref q1, .ref q2, .ref q3, .ref q4])), (q1, .inl (cI, 12, .inl hf)), (q2, .inl (cZ, 12, .inl bf)), (qL, .inl (cL, 1, .inr (.inl lf)))] sz)) 1 6 (va_A [(o, .inr (3, [.ref q1, .ref q2, .ref q3, .ref q4])), (q1, .inl (cI, 12, .inl hf)), (q2, .inl (cZ, 12, .inl bf)), (qL, .inl (cL, 1, .inr (.inl lf)))] sz) := by
  refine va_MetW (cc := cL_power) (maxL := 7) (ret := (some .int)) (by decide) rfl ?_
  intro p e s m args below meth c s₁ B hml hv
  obtain ⟨rfl, hsz, hP, hK, hD0, hE⟩ := hv
  have hx := B.exec
  have hb := B.bytes
  have hr := B.returns
  have hts := atoms_spec (ws := wsL_power) B.pre
  have hown : s.vm.findClass RL = some m.cls := findClass_of_methodNamed B.named
  have hlocks := B.notSynchronized
  have htab := vx_table (x := yL_power) B (hts _ List.mem_cons_self)
  subst hsz
  have hD := hD0.self (sz := s.heap.size)
  generalize hAe : va_A [(o, .inr (3, [.ref q1, .ref q2, .ref q3, .ref q4])), (q1, .inl (cI, 12, .inl hf)), (q2, .inl (cZ, 12, .inl bf)), (qL, .inl (cL, 1, .inr (.inl lf)))] s.heap.size = A at hD hE ⊢
  have hA : ∀ q : Nat, s.heap.size ≤ q → A q := fun q h => by rw [← hAe]; exact Or.inr h
  have hS : va_S A s.heap s.heap [] := va_S.rf
  have hl := lv_entry ([.ref o, .int i0, .int i1, .int i2, .int i3, .ref qL]) (n := 7) (Nat.le_of_ble_eq_true rfl)
  rw [lg_entry_eq]
  generalize (lg_sl ([.ref o, .int i0, .int i1, .int i2, .int i3, .ref qL]) ++ List.replicate (7 - (lg_sl ([.ref o, .int i0, .int i1, .int i2, .int i3, .ref qL])).length) Slot.unset).toArray = ls at hl ⊢
  have hl : lv_has ls 7 [(0, .ref o), (1, .int i0), (2, .int i1), (3, .int i2), (4, .int i3), (5, .ref qL)] := hl
  refine lv_aload hx hb dL_power_0 (lv_at hl 5 rfl) ?_
  refine lv_iconst (v := 0) hx hb dL_power_2 (by decide) ?_
  refine lv_aload_n hx hb dL_power_3 rfl (lv_at hl 0 rfl) ?_
  refine lv_iload_n hx hb dL_power_4 rfl (lv_at hl 1 rfl) ?_
  refine lv_iload_n hx hb dL_power_5 rfl (lv_at hl 2 rfl) ?_
  refine lv_iload_n hx hb dL_power_6 rfl (lv_at hl 3 rfl) ?_
  refine lv_iload hx hb dL_power_7 (lv_at hl 4 rfl) ?_
  refine ny_x hS (va_free (wc := [(o, .inr (3, [.ref q1, .ref q2, .ref q3, .ref q4])), (q1, .inl (cI, 12, .inl hf)), (q2, .inl (cZ, 12, .inl bf))]) hD hS hA [0, 1, 2] rfl) (vx_runV (As := [.int i0, .int i1, .int i2, .int i3]) (rest := [.int 0, .ref qL]) ⟨hx, hb, hml, hown, hts⟩ (c_X1_power_noP l D cI cZ o q1 q2 q3 q4 s.heap.size hf bf i0 i1 i2 i3 (by assumption) (by assumption)) (cwV 4 hts gL_power_X1_power rfl rfl rfl (by decide +kernel) ⟨Nat.le_of_ble_eq_true rfl, Nat.le_of_ble_eq_true rfl⟩) ⟨ny_blind, va_recv hK hP (ci := 3) (q0 := 0) rfl rfl, fun U hU hW => ⟨rfl, ny_preU hE hP hK hD hS hA [0, 1, 2] rfl (by decide) rfl [0, 1] rfl U hU hW⟩⟩ rfl rfl hl.1 rfl (lv_room (Nat.le_of_ble_eq_true rfl)) dL_power_9 ⟨Nat.le_of_ble_eq_true rfl, Nat.le_of_ble_eq_true rfl⟩) (fun ce q9 H locs hz9 hk9 hS hc9 hv9 hn9 => ?_)
  have hP : va_P D vwCl [(o, .inr (3, [.ref q1, .ref q2, .ref q3, .ref q4])), (q1, .inl (cI, 12, .inl hf)), (q2, .inl (cZ, 12, .inl bf)), (qL, .inl (cL, 1, .inr (.inl lf)))] H := ny_keep hP hk9
  refine vx_catch (own := RL) (name := ny_IO) (E := ny_IO) hown (tableOf []) ⟨0, 13, 16, 13⟩ (tableOf [(0, 13, 20, 15), (0, 13, 24, 39)]) (htab.trans rfl) (fun z hz => absurd hz List.not_mem_nil) (by decide) (by decide) (hts (.classLink RL 13 "java/lang/IndexOutOfBoundsException") (List.mem_of_getElem? (i := 1) rfl)) (va_Nw.use rfl (hE.2.2.2.2.1 _ (List.mem_of_getElem? (i := 0) rfl))) hc9 hv9 hn9 ?_
  refine W.eq (g2 := F0 m 16 ls [.ref q9]) rfl ?_
  refine lv_astore (lv' := [(6, .ref q9), (0, .ref o), (1, .int i0), (2, .int i1), (3, .int i2), (4, .int i3), (5, .ref qL)]) hx hb dL_power_16 hl (by decide) rfl (fun ls hl => ?_)
  refine lv_iconst (v := 1) hx hb dL_power_18 (by decide) ?_
  have hP9 := hP.sub (ws' := [(o, .inr (3, [.ref q1, .ref q2, .ref q3, .ref q4])), (q1, .inl (cI, 12, .inl hf)), (q2, .inl (cZ, 12, .inl bf)), (qL, .inl (cL, 1, .inr (.inl lf)))]) [0, 1, 2, 3] rfl
  have hD9 := hD.sub (ws' := [(o, .inr (3, [.ref q1, .ref q2, .ref q3, .ref q4])), (q1, .inl (cI, 12, .inl hf)), (q2, .inl (cZ, 12, .inl bf)), (qL, .inl (cL, 1, .inr (.inl lf)))]) [0, 1, 2, 3] (by decide) rfl
  refine W.widen (k := 1) (n := 6) (Nat.le_of_ble_eq_true rfl) (Nat.le_of_ble_eq_true rfl) ?_
  exact W.iret (v := 1) hx hb hr (fun t ht hW => ⟨⟨1, (), rfl, (rfl), by rw [ht]; exact hP9, va_K.moved hW.alike hK, hD9⟩, hS.F ht⟩) hS.2.2 dL_power_19
set_option maxHeartbeats 4000000 in
set_option maxRecDepth 100000 in
theorem c_L_power_noA (l : Launch) (D : va_G) (cI : ClassId) (cZ : ClassId) (o : Nat) (q1 : Nat) (q2 : Nat) (q3 : Nat) (q4 : Nat) (sz : Nat) (hf : Nat → Int32) (bf : Nat → Int32) (i0 : Int32) (i1 : Int32) (i2 : Int32) (i3 : Int32) (cL : ClassId) (qL : Nat) (lf : Nat → Int64) (gl : l.stackTraces = false) (gp0 : vp_in i0 12) (gp1 : vp_in i1 12) (gp3 : vp_in i3 12) (gn : ¬ (0 ≤ i2.toInt ∧ i2.toInt ≤ 1000)) : Met l yL_power wsL_power ({ frames := 7, cells := 1, slots := 6, locals := 114 }) (va_Pc [.ref o, .int i0, .int i1, .int i2, .int i3, .ref qL] (ny_pre D [(cI, .int), (cZ, .boolean), (cL, .long)] [(o, .inr (3, [.ref q1, .ref q2, .ref q3, .ref q4])), (q1, .inl (cI, 12, .inl hf)), (q2, .inl (cZ, 12, .inl bf)), (qL, .inl (cL, 1, .inr (.inl lf)))] sz)) (va_Qi (fun (r : Int32) (u : Unit) => r = 2) (fun (u : Unit) t => ny_at D [(cI, .int), (cZ, .boolean), (cL, .long)] (va_A [(o, .inr (3, [.ref q1, .ref q2, .ref q3, .ref q4])), (q1, .inl (cI, 12, .inl hf)), (q2, .inl (cZ, 12, .inl bf)), (qL, .inl (cL, 1, .inr (.inl lf)))] sz) [(o, .inr (3, [.ref q1, .ref q2, .ref q3, .ref q4])), (q1, .inl (cI, 12, .inl hf)), (q2, .inl (cZ, 12, .inl bf)), (qL, .inl (cL, 1, .inr (.inl lf)))] t) (va_A [(o, .inr (3, [.ref q1, .ref q2, .ref q3, .ref q4])), (q1, .inl (cI, 12, .inl hf)), (q2, .inl (cZ, 12, .inl bf)), (qL, .inl (cL, 1, .inr (.inl lf)))] sz)) 1 6 (va_A [(o, .inr (3, [.ref q1, .ref q2, .ref q3, .ref q4])), (q1, .inl (cI, 12, .inl hf)), (q2, .inl (cZ, 12, .inl bf)), (qL, .inl (cL, 1, .inr (.inl lf)))] sz) := by
  refine va_MetW (cc := cL_power) (maxL := 7) (ret := (some .int)) (by decide) rfl ?_
  intro p e s m args below meth c s₁ B hml hv
  obtain ⟨rfl, hsz, hP, hK, hD0, hE⟩ := hv
  have hx := B.exec
  have hb := B.bytes
  have hr := B.returns
  have hts := atoms_spec (ws := wsL_power) B.pre
  have hown : s.vm.findClass RL = some m.cls := findClass_of_methodNamed B.named
  have hlocks := B.notSynchronized
  have htab := vx_table (x := yL_power) B (hts _ List.mem_cons_self)
  subst hsz
  have hD := hD0.self (sz := s.heap.size)
  generalize hAe : va_A [(o, .inr (3, [.ref q1, .ref q2, .ref q3, .ref q4])), (q1, .inl (cI, 12, .inl hf)), (q2, .inl (cZ, 12, .inl bf)), (qL, .inl (cL, 1, .inr (.inl lf)))] s.heap.size = A at hD hE ⊢
  have hA : ∀ q : Nat, s.heap.size ≤ q → A q := fun q h => by rw [← hAe]; exact Or.inr h
  have hS : va_S A s.heap s.heap [] := va_S.rf
  have hl := lv_entry ([.ref o, .int i0, .int i1, .int i2, .int i3, .ref qL]) (n := 7) (Nat.le_of_ble_eq_true rfl)
  rw [lg_entry_eq]
  generalize (lg_sl ([.ref o, .int i0, .int i1, .int i2, .int i3, .ref qL]) ++ List.replicate (7 - (lg_sl ([.ref o, .int i0, .int i1, .int i2, .int i3, .ref qL])).length) Slot.unset).toArray = ls at hl ⊢
  have hl : lv_has ls 7 [(0, .ref o), (1, .int i0), (2, .int i1), (3, .int i2), (4, .int i3), (5, .ref qL)] := hl
  refine lv_aload hx hb dL_power_0 (lv_at hl 5 rfl) ?_
  refine lv_iconst (v := 0) hx hb dL_power_2 (by decide) ?_
  refine lv_aload_n hx hb dL_power_3 rfl (lv_at hl 0 rfl) ?_
  refine lv_iload_n hx hb dL_power_4 rfl (lv_at hl 1 rfl) ?_
  refine lv_iload_n hx hb dL_power_5 rfl (lv_at hl 2 rfl) ?_
  refine lv_iload_n hx hb dL_power_6 rfl (lv_at hl 3 rfl) ?_
  refine lv_iload hx hb dL_power_7 (lv_at hl 4 rfl) ?_
  refine ny_x hS (va_free (wc := [(o, .inr (3, [.ref q1, .ref q2, .ref q3, .ref q4])), (q1, .inl (cI, 12, .inl hf)), (q2, .inl (cZ, 12, .inl bf))]) hD hS hA [0, 1, 2] rfl) (vx_runV (As := [.int i0, .int i1, .int i2, .int i3]) (rest := [.int 0, .ref qL]) ⟨hx, hb, hml, hown, hts⟩ (c_X1_power_noA l D cI cZ o q1 q2 q3 q4 s.heap.size hf bf i0 i1 i2 i3 (by assumption) (by assumption) (by assumption) (by assumption) (by assumption)) (cwV 4 hts gL_power_X1_power rfl rfl rfl (by decide +kernel) ⟨Nat.le_of_ble_eq_true rfl, Nat.le_of_ble_eq_true rfl⟩) ⟨ny_blind, va_recv hK hP (ci := 3) (q0 := 0) rfl rfl, fun U hU hW => ⟨rfl, ny_preU hE hP hK hD hS hA [0, 1, 2] rfl (by decide) rfl [0, 1] rfl U hU hW⟩⟩ rfl rfl hl.1 rfl (lv_room (Nat.le_of_ble_eq_true rfl)) dL_power_9 ⟨Nat.le_of_ble_eq_true rfl, Nat.le_of_ble_eq_true rfl⟩) (fun ce q9 H locs hz9 hk9 hS hc9 hv9 hn9 => ?_)
  have hP : va_P D vwCl [(o, .inr (3, [.ref q1, .ref q2, .ref q3, .ref q4])), (q1, .inl (cI, 12, .inl hf)), (q2, .inl (cZ, 12, .inl bf)), (qL, .inl (cL, 1, .inr (.inl lf)))] H := ny_keep hP hk9
  refine vx_catch (own := RL) (name := ny_IA) (E := ny_IA) hown (tableOf [(0, 13, 16, 13)]) ⟨0, 13, 20, 15⟩ (tableOf [(0, 13, 24, 39)]) (htab.trans rfl) (List.forall_mem_cons.mpr ⟨Or.inr ⟨(by decide), ny_IO, (hts (.classLink RL 13 "java/lang/IndexOutOfBoundsException") (List.mem_of_getElem? (i := 1) rfl)), (hE.2.2.2.2.2.1 _ (List.mem_of_getElem? (i := 2) rfl))⟩, (fun z hz => absurd hz List.not_mem_nil)⟩) (by decide) (by decide) (hts (.classLink RL 15 "java/lang/IllegalArgumentException") (List.mem_of_getElem? (i := 2) rfl)) (va_Nw.use rfl (hE.2.2.2.2.1 _ (List.mem_of_getElem? (i := 1) rfl))) hc9 hv9 hn9 ?_
  refine W.eq (g2 := F0 m 20 ls [.ref q9]) rfl ?_
  refine lv_astore (lv' := [(6, .ref q9), (0, .ref o), (1, .int i0), (2, .int i1), (3, .int i2), (4, .int i3), (5, .ref qL)]) hx hb dL_power_20 hl (by decide) rfl (fun ls hl => ?_)
  refine lv_iconst (v := 2) hx hb dL_power_22 (by decide) ?_
  have hP9 := hP.sub (ws' := [(o, .inr (3, [.ref q1, .ref q2, .ref q3, .ref q4])), (q1, .inl (cI, 12, .inl hf)), (q2, .inl (cZ, 12, .inl bf)), (qL, .inl (cL, 1, .inr (.inl lf)))]) [0, 1, 2, 3] rfl
  have hD9 := hD.sub (ws' := [(o, .inr (3, [.ref q1, .ref q2, .ref q3, .ref q4])), (q1, .inl (cI, 12, .inl hf)), (q2, .inl (cZ, 12, .inl bf)), (qL, .inl (cL, 1, .inr (.inl lf)))]) [0, 1, 2, 3] (by decide) rfl
  refine W.widen (k := 1) (n := 6) (Nat.le_of_ble_eq_true rfl) (Nat.le_of_ble_eq_true rfl) ?_
  exact W.iret (v := 2) hx hb hr (fun t ht hW => ⟨⟨2, (), rfl, (rfl), by rw [ht]; exact hP9, va_K.moved hW.alike hK, hD9⟩, hS.F ht⟩) hS.2.2 dL_power_23
set_option maxHeartbeats 4000000 in
set_option maxRecDepth 100000 in
theorem c_L_power_no0 (l : Launch) (D : va_G) (cI : ClassId) (cZ : ClassId) (o : Nat) (q1 : Nat) (q2 : Nat) (q3 : Nat) (q4 : Nat) (sz : Nat) (hf : Nat → Int32) (bf : Nat → Int32) (i0 : Int32) (i1 : Int32) (i2 : Int32) (i3 : Int32) (cL : ClassId) (qL : Nat) (lf : Nat → Int64) (gl : l.stackTraces = false) (gp0 : vp_in i0 12) (gp1 : vp_in i1 12) (gp3 : vp_in i3 12) (g0 : hf i3.toNatClampNeg = 0) (gn : 0 ≤ i2.toInt ∧ i2.toInt ≤ 1000) : Met l yL_power wsL_power ({ frames := 8, cells := 1, slots := 6, locals := 136 }) (va_Pc [.ref o, .int i0, .int i1, .int i2, .int i3, .ref qL] (ny_pre D [(cI, .int), (cZ, .boolean), (cL, .long)] [(o, .inr (3, [.ref q1, .ref q2, .ref q3, .ref q4])), (q1, .inl (cI, 12, .inl hf)), (q2, .inl (cZ, 12, .inl bf)), (qL, .inl (cL, 1, .inr (.inl lf)))] sz)) (va_Qi (fun (r : Int32) (u : Unit) => r = 3) (fun (u : Unit) t => ny_at D [(cI, .int), (cZ, .boolean), (cL, .long)] (va_A [(o, .inr (3, [.ref q1, .ref q2, .ref q3, .ref q4])), (q1, .inl (cI, 12, .inl hf)), (q2, .inl (cZ, 12, .inl bf)), (qL, .inl (cL, 1, .inr (.inl lf)))] sz) [(o, .inr (3, [.ref q1, .ref q2, .ref q3, .ref q4])), (q1, .inl (cI, 12, .inl hf)), (q2, .inl (cZ, 12, .inl bf)), (qL, .inl (cL, 1, .inr (.inl lf)))] t) (va_A [(o, .inr (3, [.ref q1, .ref q2, .ref q3, .ref q4])), (q1, .inl (cI, 12, .inl hf)), (q2, .inl (cZ, 12, .inl bf)), (qL, .inl (cL, 1, .inr (.inl lf)))] sz)) 1 6 (va_A [(o, .inr (3, [.ref q1, .ref q2, .ref q3, .ref q4])), (q1, .inl (cI, 12, .inl hf)), (q2, .inl (cZ, 12, .inl bf)), (qL, .inl (cL, 1, .inr (.inl lf)))] sz) := by
  refine va_MetW (cc := cL_power) (maxL := 7) (ret := (some .int)) (by decide) rfl ?_
  intro p e s m args below meth c s₁ B hml hv
  obtain ⟨rfl, hsz, hP, hK, hD0, hE⟩ := hv
  have hx := B.exec
  have hb := B.bytes
  have hr := B.returns
  have hts := atoms_spec (ws := wsL_power) B.pre
  have hown : s.vm.findClass RL = some m.cls := findClass_of_methodNamed B.named
  have hlocks := B.notSynchronized
  have htab := vx_table (x := yL_power) B (hts _ List.mem_cons_self)
  subst hsz
  have hD := hD0.self (sz := s.heap.size)
  generalize hAe : va_A [(o, .inr (3, [.ref q1, .ref q2, .ref q3, .ref q4])), (q1, .inl (cI, 12, .inl hf)), (q2, .inl (cZ, 12, .inl bf)), (qL, .inl (cL, 1, .inr (.inl lf)))] s.heap.size = A at hD hE ⊢
  have hA : ∀ q : Nat, s.heap.size ≤ q → A q := fun q h => by rw [← hAe]; exact Or.inr h
  have hS : va_S A s.heap s.heap [] := va_S.rf
  have hl := lv_entry ([.ref o, .int i0, .int i1, .int i2, .int i3, .ref qL]) (n := 7) (Nat.le_of_ble_eq_true rfl)
  rw [lg_entry_eq]
  generalize (lg_sl ([.ref o, .int i0, .int i1, .int i2, .int i3, .ref qL]) ++ List.replicate (7 - (lg_sl ([.ref o, .int i0, .int i1, .int i2, .int i3, .ref qL])).length) Slot.unset).toArray = ls at hl ⊢
  have hl : lv_has ls 7 [(0, .ref o), (1, .int i0), (2, .int i1), (3, .int i2), (4, .int i3), (5, .ref qL)] := hl
  refine lv_aload hx hb dL_power_0 (lv_at hl 5 rfl) ?_
  refine lv_iconst (v := 0) hx hb dL_power_2 (by decide) ?_
  refine lv_aload_n hx hb dL_power_3 rfl (lv_at hl 0 rfl) ?_
  refine lv_iload_n hx hb dL_power_4 rfl (lv_at hl 1 rfl) ?_
  refine lv_iload_n hx hb dL_power_5 rfl (lv_at hl 2 rfl) ?_
  refine lv_iload_n hx hb dL_power_6 rfl (lv_at hl 3 rfl) ?_
  refine lv_iload hx hb dL_power_7 (lv_at hl 4 rfl) ?_
  refine ny_x hS (va_free (wc := [(o, .inr (3, [.ref q1, .ref q2, .ref q3, .ref q4])), (q1, .inl (cI, 12, .inl hf)), (q2, .inl (cZ, 12, .inl bf))]) hD hS hA [0, 1, 2] rfl) (vx_runV (As := [.int i0, .int i1, .int i2, .int i3]) (rest := [.int 0, .ref qL]) ⟨hx, hb, hml, hown, hts⟩ (c_X1_power_no0 l D cI cZ o q1 q2 q3 q4 s.heap.size hf bf i0 i1 i2 i3 (by assumption) (by assumption) (by assumption) (by assumption) (by assumption) (by assumption)) (cwV 4 hts gL_power_X1_power rfl rfl rfl (by decide +kernel) ⟨Nat.le_of_ble_eq_true rfl, Nat.le_of_ble_eq_true rfl⟩) ⟨ny_blind, va_recv hK hP (ci := 3) (q0 := 0) rfl rfl, fun U hU hW => ⟨rfl, ny_preU hE hP hK hD hS hA [0, 1, 2] rfl (by decide) rfl [0, 1] rfl U hU hW⟩⟩ rfl rfl hl.1 rfl (lv_room (Nat.le_of_ble_eq_true rfl)) dL_power_9 ⟨Nat.le_of_ble_eq_true rfl, Nat.le_of_ble_eq_true rfl⟩) (fun ce q9 H locs hz9 hk9 hS hc9 hv9 hn9 => ?_)
  have hP : va_P D vwCl [(o, .inr (3, [.ref q1, .ref q2, .ref q3, .ref q4])), (q1, .inl (cI, 12, .inl hf)), (q2, .inl (cZ, 12, .inl bf)), (qL, .inl (cL, 1, .inr (.inl lf)))] H := ny_keep hP hk9
  refine vx_catch (own := RL) (name := ny_AE) (E := ny_AE) hown (tableOf [(0, 13, 16, 13), (0, 13, 20, 15)]) ⟨0, 13, 24, 39⟩ (tableOf []) (htab.trans rfl) (List.forall_mem_cons.mpr ⟨Or.inr ⟨(by decide), ny_IO, (hts (.classLink RL 13 "java/lang/IndexOutOfBoundsException") (List.mem_of_getElem? (i := 1) rfl)), (hE.2.2.2.2.2.1 _ (List.mem_of_getElem? (i := 0) rfl))⟩, (List.forall_mem_cons.mpr ⟨Or.inr ⟨(by decide), ny_IA, (hts (.classLink RL 15 "java/lang/IllegalArgumentException") (List.mem_of_getElem? (i := 2) rfl)), (hE.2.2.2.2.2.1 _ (List.mem_of_getElem? (i := 1) rfl))⟩, (fun z hz => absurd hz List.not_mem_nil)⟩)⟩) (by decide) (by decide) (hts (.classLink RL 39 "java/lang/ArithmeticException") (List.mem_of_getElem? (i := 3) rfl)) (va_Nw.use rfl (hE.2.2.2.2.1 _ (List.mem_of_getElem? (i := 2) rfl))) hc9 hv9 hn9 ?_
  refine W.eq (g2 := F0 m 24 ls [.ref q9]) rfl ?_
  refine lv_astore (lv' := [(6, .ref q9), (0, .ref o), (1, .int i0), (2, .int i1), (3, .int i2), (4, .int i3), (5, .ref qL)]) hx hb dL_power_24 hl (by decide) rfl (fun ls hl => ?_)
  refine lv_iconst (v := 3) hx hb dL_power_26 (by decide) ?_
  have hP9 := hP.sub (ws' := [(o, .inr (3, [.ref q1, .ref q2, .ref q3, .ref q4])), (q1, .inl (cI, 12, .inl hf)), (q2, .inl (cZ, 12, .inl bf)), (qL, .inl (cL, 1, .inr (.inl lf)))]) [0, 1, 2, 3] rfl
  have hD9 := hD.sub (ws' := [(o, .inr (3, [.ref q1, .ref q2, .ref q3, .ref q4])), (q1, .inl (cI, 12, .inl hf)), (q2, .inl (cZ, 12, .inl bf)), (qL, .inl (cL, 1, .inr (.inl lf)))]) [0, 1, 2, 3] (by decide) rfl
  refine W.widen (k := 1) (n := 6) (Nat.le_of_ble_eq_true rfl) (Nat.le_of_ble_eq_true rfl) ?_
  exact W.iret (v := 3) hx hb hr (fun t ht hW => ⟨⟨3, (), rfl, (rfl), by rw [ht]; exact hP9, va_K.moved hW.alike hK, hD9⟩, hS.F ht⟩) hS.2.2 dL_power_27
set_option maxHeartbeats 4000000 in
set_option maxRecDepth 100000 in
theorem c_L_inverse (l : Launch) (D : va_G) (cI : ClassId) (cZ : ClassId) (o : Nat) (q1 : Nat) (q2 : Nat) (q3 : Nat) (q4 : Nat) (sz : Nat) (hf : Nat → Int32) (bf : Nat → Int32) (q6 : Nat) (sr : Nat → Int32) (sc : Int32) (sl : Int32) (se : Int32) (i0 : Int32) (i1 : Int32) (i2 : Int32) (cL : ClassId) (qL : Nat) (lf : Nat → Int64) (gp0 : vp_in i0 12) (gp1 : vp_in i1 12) (gp2 : vp_in i2 12) (g0 : ¬ hf i2.toNatClampNeg = 0) (gH : ny_H hf) (gi : ¬ f_iv (hf i1.toNatClampNeg) (hf i2.toNatClampNeg) = 128) : Met l yL_inverse wsL_inverse ({ frames := 5, cells := 0, slots := 0, locals := 121 }) (va_Pc [.ref o, .int i0, .int i1, .int i2, .ref qL] (ny_pre D [(cI, .int), (cZ, .boolean), (cL, .long)] [(o, .inr (3, [.ref q1, .ref q2, .ref q3, .ref q4])), (q1, .inl (cI, 12, .inl hf)), (q2, .inl (cZ, 12, .inl bf)), (q4, .inr (2, [.ref q6, .int sc, .int sl, .int se])), (q6, .inl (cI, 7, .inl sr)), (qL, .inl (cL, 1, .inr (.inl lf)))] sz)) (va_Qi (fun (r : Int32) (u : Unit) => r = 0) (fun (u : Unit) t => ny_at D [(cI, .int), (cZ, .boolean), (cL, .long)] (va_A [(o, .inr (3, [.ref q1, .ref q2, .ref q3, .ref q4])), (q1, .inl (cI, 12, .inl hf)), (q2, .inl (cZ, 12, .inl bf)), (q4, .inr (2, [.ref q6, .int sc, .int sl, .int se])), (q6, .inl (cI, 7, .inl sr)), (qL, .inl (cL, 1, .inr (.inl lf)))] sz) [(o, .inr (3, [.ref q1, .ref q2, .ref q3, .ref q4])), (q1, .inl (cI, 12, .inl (upd hf i0.toNatClampNeg (f_iv (hf i1.toNatClampNeg) (hf i2.toNatClampNeg))))), (q2, .inl (cZ, 12, .inl (upd bf i0.toNatClampNeg 0))), (q4, .inr (2, [.ref q6, .int (nI (f_ln (hf i1.toNatClampNeg) (hf i2.toNatClampNeg))), .int (f_la (hf i1.toNatClampNeg) (hf i2.toNatClampNeg)), .int 1])), (q6, .inl (cI, 7, .inl (f_row sr (hf i1.toNatClampNeg) (hf i2.toNatClampNeg) (f_ln (hf i1.toNatClampNeg) (hf i2.toNatClampNeg))))), (qL, .inl (cL, 1, .inr (.inl (vp_updL lf (0 : Int32).toNatClampNeg (f_bt (f_iv (hf i1.toNatClampNeg) (hf i2.toNatClampNeg)) 0)))))] t) (va_A [(o, .inr (3, [.ref q1, .ref q2, .ref q3, .ref q4])), (q1, .inl (cI, 12, .inl hf)), (q2, .inl (cZ, 12, .inl bf)), (q4, .inr (2, [.ref q6, .int sc, .int sl, .int se])), (q6, .inl (cI, 7, .inl sr)), (qL, .inl (cL, 1, .inr (.inl lf)))] sz)) 0 0 (va_A [(o, .inr (3, [.ref q1, .ref q2, .ref q3, .ref q4])), (q1, .inl (cI, 12, .inl hf)), (q2, .inl (cZ, 12, .inl bf)), (q4, .inr (2, [.ref q6, .int sc, .int sl, .int se])), (q6, .inl (cI, 7, .inl sr)), (qL, .inl (cL, 1, .inr (.inl lf)))] sz) := by
  refine va_MetW (cc := cL_inverse) (maxL := 6) (ret := (some .int)) (by decide) rfl ?_
  intro p e s m args below meth c s₁ B hml hv
  obtain ⟨rfl, hsz, hP, hK, hD0, hE⟩ := hv
  have hx := B.exec
  have hb := B.bytes
  have hr := B.returns
  have hts := atoms_spec (ws := wsL_inverse) B.pre
  have hown : s.vm.findClass RL = some m.cls := findClass_of_methodNamed B.named
  have hlocks := B.notSynchronized
  have htab := vx_table (x := yL_inverse) B (hts _ List.mem_cons_self)
  subst hsz
  have hD := hD0.self (sz := s.heap.size)
  generalize hAe : va_A [(o, .inr (3, [.ref q1, .ref q2, .ref q3, .ref q4])), (q1, .inl (cI, 12, .inl hf)), (q2, .inl (cZ, 12, .inl bf)), (q4, .inr (2, [.ref q6, .int sc, .int sl, .int se])), (q6, .inl (cI, 7, .inl sr)), (qL, .inl (cL, 1, .inr (.inl lf)))] s.heap.size = A at hD hE ⊢
  have hA : ∀ q : Nat, s.heap.size ≤ q → A q := fun q h => by rw [← hAe]; exact Or.inr h
  have hS : va_S A s.heap s.heap [] := va_S.rf
  have hl := lv_entry ([.ref o, .int i0, .int i1, .int i2, .ref qL]) (n := 6) (Nat.le_of_ble_eq_true rfl)
  rw [lg_entry_eq]
  generalize (lg_sl ([.ref o, .int i0, .int i1, .int i2, .ref qL]) ++ List.replicate (6 - (lg_sl ([.ref o, .int i0, .int i1, .int i2, .ref qL])).length) Slot.unset).toArray = ls at hl ⊢
  have hl : lv_has ls 6 [(0, .ref o), (1, .int i0), (2, .int i1), (3, .int i2), (4, .ref qL)] := hl
  refine lv_aload hx hb dL_inverse_0 (lv_at hl 4 rfl) ?_
  refine lv_iconst (v := 0) hx hb dL_inverse_2 (by decide) ?_
  refine lv_aload_n hx hb dL_inverse_3 rfl (lv_at hl 0 rfl) ?_
  refine lv_iload_n hx hb dL_inverse_4 rfl (lv_at hl 1 rfl) ?_
  refine lv_iload_n hx hb dL_inverse_5 rfl (lv_at hl 2 rfl) ?_
  refine lv_iload_n hx hb dL_inverse_6 rfl (lv_at hl 3 rfl) ?_
  refine ny_l (wc := [(o, .inr (3, [.ref q1, .ref q2, .ref q3, .ref q4])), (q1, .inl (cI, 12, .inl hf)), (q2, .inl (cZ, 12, .inl bf)), (q4, .inr (2, [.ref q6, .int sc, .int sl, .int se])), (q6, .inl (cI, 7, .inl sr))]) (wr := [(qL, .inl (cL, 1, .inr (.inl lf)))]) hP hD hS hA [0, 1, 2, 3, 4] [5] rfl rfl (by decide) (by decide) (va_runV (As := [.int i0, .int i1, .int i2]) (rest := [.int 0, .ref qL]) ⟨hx, hb, hml, hown, hts⟩ (c_X1_inverse l D cI cZ o q1 q2 q3 q4 s.heap.size hf bf q6 sr sc sl se i0 i1 i2 (by assumption) (by assumption) (by assumption) (by assumption) (by assumption) (by assumption)) (cwV 3 hts gL_inverse_X1_inverse rfl rfl rfl (by decide +kernel) ⟨Nat.le_of_ble_eq_true rfl, Nat.le_of_ble_eq_true rfl⟩) ⟨ny_blind, va_recv hK hP (ci := 3) (q0 := 0) rfl rfl, fun U hU hW => ⟨rfl, ny_preU hE hP hK hD hS hA [0, 1, 2, 3, 4] rfl (by decide) rfl [0, 1] rfl U hU hW⟩⟩ rfl rfl hl.1 rfl (lv_room (Nat.le_of_ble_eq_true rfl)) dL_inverse_7 ⟨Nat.le_of_ble_eq_true rfl, Nat.le_of_ble_eq_true rfl⟩) (fun r_7 u H locs hw_7 hP hD hS => ?_)
  have hP : va_P D vwCl [(qL, .inl (cL, 1, .inr (.inl lf))), (o, .inr (3, [.ref q1, .ref q2, .ref q3, .ref q4])), (q1, .inl (cI, 12, .inl (upd hf i0.toNatClampNeg (f_iv (hf i1.toNatClampNeg) (hf i2.toNatClampNeg))))), (q2, .inl (cZ, 12, .inl (upd bf i0.toNatClampNeg 0))), (q4, .inr (2, [.ref q6, .int (nI (f_ln (hf i1.toNatClampNeg) (hf i2.toNatClampNeg))), .int (f_la (hf i1.toNatClampNeg) (hf i2.toNatClampNeg)), .int 1])), (q6, .inl (cI, 7, .inl (f_row sr (hf i1.toNatClampNeg) (hf i2.toNatClampNeg) (f_ln (hf i1.toNatClampNeg) (hf i2.toNatClampNeg)))))] H := hP
  have hD : va_D A [(qL, .inl (cL, 1, .inr (.inl lf))), (o, .inr (3, [.ref q1, .ref q2, .ref q3, .ref q4])), (q1, .inl (cI, 12, .inl (upd hf i0.toNatClampNeg (f_iv (hf i1.toNatClampNeg) (hf i2.toNatClampNeg))))), (q2, .inl (cZ, 12, .inl (upd bf i0.toNatClampNeg 0))), (q4, .inr (2, [.ref q6, .int (nI (f_ln (hf i1.toNatClampNeg) (hf i2.toNatClampNeg))), .int (f_la (hf i1.toNatClampNeg) (hf i2.toNatClampNeg)), .int 1])), (q6, .inl (cI, 7, .inl (f_row sr (hf i1.toNatClampNeg) (hf i2.toNatClampNeg) (f_ln (hf i1.toNatClampNeg) (hf i2.toNatClampNeg)))))] := hD
  have hw_7 : r_7 = f_bt (f_iv (hf i1.toNatClampNeg) (hf i2.toNatClampNeg)) 0 := hw_7
  subst hw_7
  refine va_last hx hb hK hP hD hS 0 2 rfl rfl (vp_in_iff.mpr (by decide)) dL_inverse_10 (fun H locs hP hD hS => ?_)
  have hP : va_P D vwCl [(qL, .inl (cL, 1, .inr (.inl (vp_updL lf (0 : Int32).toNatClampNeg (f_bt (f_iv (hf i1.toNatClampNeg) (hf i2.toNatClampNeg)) 0))))), (o, .inr (3, [.ref q1, .ref q2, .ref q3, .ref q4])), (q1, .inl (cI, 12, .inl (upd hf i0.toNatClampNeg (f_iv (hf i1.toNatClampNeg) (hf i2.toNatClampNeg))))), (q2, .inl (cZ, 12, .inl (upd bf i0.toNatClampNeg 0))), (q4, .inr (2, [.ref q6, .int (nI (f_ln (hf i1.toNatClampNeg) (hf i2.toNatClampNeg))), .int (f_la (hf i1.toNatClampNeg) (hf i2.toNatClampNeg)), .int 1])), (q6, .inl (cI, 7, .inl (f_row sr (hf i1.toNatClampNeg) (hf i2.toNatClampNeg) (f_ln (hf i1.toNatClampNeg) (hf i2.toNatClampNeg)))))] H := hP
  have hD : va_D A [(qL, .inl (cL, 1, .inr (.inl (vp_updL lf (0 : Int32).toNatClampNeg (f_bt (f_iv (hf i1.toNatClampNeg) (hf i2.toNatClampNeg)) 0))))), (o, .inr (3, [.ref q1, .ref q2, .ref q3, .ref q4])), (q1, .inl (cI, 12, .inl (upd hf i0.toNatClampNeg (f_iv (hf i1.toNatClampNeg) (hf i2.toNatClampNeg))))), (q2, .inl (cZ, 12, .inl (upd bf i0.toNatClampNeg 0))), (q4, .inr (2, [.ref q6, .int (nI (f_ln (hf i1.toNatClampNeg) (hf i2.toNatClampNeg))), .int (f_la (hf i1.toNatClampNeg) (hf i2.toNatClampNeg)), .int 1])), (q6, .inl (cI, 7, .inl (f_row sr (hf i1.toNatClampNeg) (hf i2.toNatClampNeg) (f_ln (hf i1.toNatClampNeg) (hf i2.toNatClampNeg)))))] := hD
  refine lv_goto (tgt := 22) hx hb dL_inverse_11 (by decide) ?_
  refine lv_iconst (v := 0) hx hb dL_inverse_22 (by decide) ?_
  have hP9 := hP.sub (ws' := [(o, .inr (3, [.ref q1, .ref q2, .ref q3, .ref q4])), (q1, .inl (cI, 12, .inl (upd hf i0.toNatClampNeg (f_iv (hf i1.toNatClampNeg) (hf i2.toNatClampNeg))))), (q2, .inl (cZ, 12, .inl (upd bf i0.toNatClampNeg 0))), (q4, .inr (2, [.ref q6, .int (nI (f_ln (hf i1.toNatClampNeg) (hf i2.toNatClampNeg))), .int (f_la (hf i1.toNatClampNeg) (hf i2.toNatClampNeg)), .int 1])), (q6, .inl (cI, 7, .inl (f_row sr (hf i1.toNatClampNeg) (hf i2.toNatClampNeg) (f_ln (hf i1.toNatClampNeg) (hf i2.toNatClampNeg))))), (qL, .inl (cL, 1, .inr (.inl (vp_updL lf (0 : Int32).toNatClampNeg (f_bt (f_iv (hf i1.toNatClampNeg) (hf i2.toNatClampNeg)) 0)))))]) [1, 2, 3, 4, 5, 0] rfl
  have hD9 := hD.sub (ws' := [(o, .inr (3, [.ref q1, .ref q2, .ref q3, .ref q4])), (q1, .inl (cI, 12, .inl (upd hf i0.toNatClampNeg (f_iv (hf i1.toNatClampNeg) (hf i2.toNatClampNeg))))), (q2, .inl (cZ, 12, .inl (upd bf i0.toNatClampNeg 0))), (q4, .inr (2, [.ref q6, .int (nI (f_ln (hf i1.toNatClampNeg) (hf i2.toNatClampNeg))), .int (f_la (hf i1.toNatClampNeg) (hf i2.toNatClampNeg)), .int 1])), (q6, .inl (cI, 7, .inl (f_row sr (hf i1.toNatClampNeg) (hf i2.toNatClampNeg) (f_ln (hf i1.toNatClampNeg) (hf i2.toNatClampNeg))))), (qL, .inl (cL, 1, .inr (.inl (vp_updL lf (0 : Int32).toNatClampNeg (f_bt (f_iv (hf i1.toNatClampNeg) (hf i2.toNatClampNeg)) 0)))))]) [1, 2, 3, 4, 5, 0] (by decide) rfl
  exact W.iret (v := 0) hx hb hr (fun t ht hW => ⟨⟨0, (), rfl, (rfl), by rw [ht]; exact hP9, va_K.moved hW.alike hK, hD9⟩, hS.F ht⟩) hS.2.2 dL_inverse_23
set_option maxHeartbeats 4000000 in
set_option maxRecDepth 100000 in
theorem c_L_inverse_noP (l : Launch) (D : va_G) (cI : ClassId) (cZ : ClassId) (o : Nat) (q1 : Nat) (q2 : Nat) (q3 : Nat) (q4 : Nat) (sz : Nat) (hf : Nat → Int32) (bf : Nat → Int32) (i0 : Int32) (i1 : Int32) (i2 : Int32) (cL : ClassId) (qL : Nat) (lf : Nat → Int64) (gl : l.stackTraces = false) (gb : ¬ vp_in i0 12 ∨ (¬ vp_in i1 12 ∨ ¬ vp_in i2 12)) : Met l yL_inverse wsL_inverse ({ frames := 9, cells := 1, slots := 6, locals := 156 }) (va_Pc [.ref o, .int i0, .int i1, .int i2, .ref qL] (ny_pre D [(cI, .int), (cZ, .boolean), (cL, .long)] [(o, .inr (3, [.ref q1, .ref q2, .ref q3, .ref q4])), (q1, .inl (cI, 12, .inl hf)), (q2, .inl (cZ, 12, .inl bf)), (qL, .inl (cL, 1, .inr (.inl lf)))] sz)) (va_Qi (fun (r : Int32) (u : Unit) => r = 1) (fun (u : Unit) t => ny_at D [(cI, .int), (cZ, .boolean), (cL, .long)] (va_A [(o, .inr (3, [.ref q1, .ref q2, .ref q3, .ref q4])), (q1, .inl (cI, 12, .inl hf)), (q2, .inl (cZ, 12, .inl bf)), (qL, .inl (cL, 1, .inr (.inl lf)))] sz) [(o, .inr (3, [.ref q1, .ref q2, .ref q3, .ref q4])), (q1, .inl (cI, 12, .inl hf)), (q2, .inl (cZ, 12, .inl bf)), (qL, .inl (cL, 1, .inr (.inl lf)))] t) (va_A [(o, .inr (3, [.ref q1, .ref q2, .ref q3, .ref q4])), (q1, .inl (cI, 12, .inl hf)), (q2, .inl (cZ, 12, .inl bf)), (qL, .inl (cL, 1, .inr (.inl lf)))] sz)) 1 6 (va_A [(o, .inr (3, [.ref q1, .ref q2, .ref q3, .ref q4])), (q1, .inl (cI, 12, .inl hf)), (q2, .inl (cZ, 12, .inl bf)), (qL, .inl (cL, 1, .inr (.inl lf)))] sz) := by
  refine va_MetW (cc := cL_inverse) (maxL := 6) (ret := (some .int)) (by decide) rfl ?_
  intro p e s m args below meth c s₁ B hml hv
  obtain ⟨rfl, hsz, hP, hK, hD0, hE⟩ := hv
  have hx := B.exec
  have hb := B.bytes
  have hr := B.returns
  have hts := atoms_spec (ws := wsL_inverse) B.pre
  have hown : s.vm.findClass RL = some m.cls := findClass_of_methodNamed B.named
  have hlocks := B.notSynchronized
  have htab := vx_table (x := yL_inverse) B (hts _ List.mem_cons_self)
  subst hsz
  have hD := hD0.self (sz := s.heap.size)
  generalize hAe : va_A [(o, .inr (3, [.ref q1, .ref q2, .ref q3, .ref q4])), (q1, .inl (cI, 12, .inl hf)), (q2, .inl (cZ, 12, .inl bf)), (qL, .inl (cL, 1, .inr (.inl lf)))] s.heap.size = A at hD hE ⊢
  have hA : ∀ q : Nat, s.heap.size ≤ q → A q := fun q h => by rw [← hAe]; exact Or.inr h
  have hS : va_S A s.heap s.heap [] := va_S.rf
  have hl := lv_entry ([.ref o, .int i0, .int i1, .int i2, .ref qL]) (n := 6) (Nat.le_of_ble_eq_true rfl)
  rw [lg_entry_eq]
  generalize (lg_sl ([.ref o, .int i0, .int i1, .int i2, .ref qL]) ++ List.replicate (6 - (lg_sl ([.ref o, .int i0, .int i1, .int i2, .ref qL])).length) Slot.unset).toArray = ls at hl ⊢
  have hl : lv_has ls 6 [(0, .ref o), (1, .int i0), (2, .int i1), (3, .int i2), (4, .ref qL)] := hl
  refine lv_aload hx hb dL_inverse_0 (lv_at hl 4 rfl) ?_
  refine lv_iconst (v := 0) hx hb dL_inverse_2 (by decide) ?_
  refine lv_aload_n hx hb dL_inverse_3 rfl (lv_at hl 0 rfl) ?_
  refine lv_iload_n hx hb dL_inverse_4 rfl (lv_at hl 1 rfl) ?_
  refine lv_iload_n hx hb dL_inverse_5 rfl (lv_at hl 2 rfl) ?_
  refine lv_iload_n hx hb dL_inverse_6 rfl (lv_at hl 3 rfl) ?_
  refine ny_x hS (va_free (wc := [(o, .inr (3, [.ref q1, .ref q2, .ref q3, .ref q4])), (q1, .inl (cI, 12, .inl hf)), (q2, .inl (cZ, 12, .inl bf))]) hD hS hA [0, 1, 2] rfl) (vx_runV (As := [.int i0, .int i1, .int i2]) (rest := [.int 0, .ref qL]) ⟨hx, hb, hml, hown, hts⟩ (c_X1_inverse_noP l D cI cZ o q1 q2 q3 q4 s.heap.size hf bf i0 i1 i2 (by assumption) (by assumption)) (cwV 3 hts gL_inverse_X1_inverse rfl rfl rfl (by decide +kernel) ⟨Nat.le_of_ble_eq_true rfl, Nat.le_of_ble_eq_true rfl⟩) ⟨ny_blind, va_recv hK hP (ci := 3) (q0 := 0) rfl rfl, fun U hU hW => ⟨rfl, ny_preU hE hP hK hD hS hA [0, 1, 2] rfl (by decide) rfl [0, 1] rfl U hU hW⟩⟩ rfl rfl hl.1 rfl (lv_room (Nat.le_of_ble_eq_true rfl)) dL_inverse_7 ⟨Nat.le_of_ble_eq_true rfl, Nat.le_of_ble_eq_true rfl⟩) (fun ce q9 H locs hz9 hk9 hS hc9 hv9 hn9 => ?_)
  have hP : va_P D vwCl [(o, .inr (3, [.ref q1, .ref q2, .ref q3, .ref q4])), (q1, .inl (cI, 12, .inl hf)), (q2, .inl (cZ, 12, .inl bf)), (qL, .inl (cL, 1, .inr (.inl lf)))] H := ny_keep hP hk9
  refine vx_catch (own := RL) (name := ny_IO) (E := ny_IO) hown (tableOf []) ⟨0, 11, 14, 13⟩ (tableOf [(0, 11, 18, 39)]) (htab.trans rfl) (fun z hz => absurd hz List.not_mem_nil) (by decide) (by decide) (hts (.classLink RL 13 "java/lang/IndexOutOfBoundsException") (List.mem_of_getElem? (i := 1) rfl)) (va_Nw.use rfl (hE.2.2.2.2.1 _ (List.mem_of_getElem? (i := 0) rfl))) hc9 hv9 hn9 ?_
  refine W.eq (g2 := F0 m 14 ls [.ref q9]) rfl ?_
  refine lv_astore (lv' := [(5, .ref q9), (0, .ref o), (1, .int i0), (2, .int i1), (3, .int i2), (4, .ref qL)]) hx hb dL_inverse_14 hl (by decide) rfl (fun ls hl => ?_)
  refine lv_iconst (v := 1) hx hb dL_inverse_16 (by decide) ?_
  have hP9 := hP.sub (ws' := [(o, .inr (3, [.ref q1, .ref q2, .ref q3, .ref q4])), (q1, .inl (cI, 12, .inl hf)), (q2, .inl (cZ, 12, .inl bf)), (qL, .inl (cL, 1, .inr (.inl lf)))]) [0, 1, 2, 3] rfl
  have hD9 := hD.sub (ws' := [(o, .inr (3, [.ref q1, .ref q2, .ref q3, .ref q4])), (q1, .inl (cI, 12, .inl hf)), (q2, .inl (cZ, 12, .inl bf)), (qL, .inl (cL, 1, .inr (.inl lf)))]) [0, 1, 2, 3] (by decide) rfl
  refine W.widen (k := 1) (n := 6) (Nat.le_of_ble_eq_true rfl) (Nat.le_of_ble_eq_true rfl) ?_
  exact W.iret (v := 1) hx hb hr (fun t ht hW => ⟨⟨1, (), rfl, (rfl), by rw [ht]; exact hP9, va_K.moved hW.alike hK, hD9⟩, hS.F ht⟩) hS.2.2 dL_inverse_17
set_option maxHeartbeats 4000000 in
set_option maxRecDepth 100000 in
theorem c_L_inverse_no0 (l : Launch) (D : va_G) (cI : ClassId) (cZ : ClassId) (o : Nat) (q1 : Nat) (q2 : Nat) (q3 : Nat) (q4 : Nat) (sz : Nat) (hf : Nat → Int32) (bf : Nat → Int32) (i0 : Int32) (i1 : Int32) (i2 : Int32) (cL : ClassId) (qL : Nat) (lf : Nat → Int64) (gl : l.stackTraces = false) (gp0 : vp_in i0 12) (gp1 : vp_in i1 12) (gp2 : vp_in i2 12) (g0 : hf i2.toNatClampNeg = 0) : Met l yL_inverse wsL_inverse ({ frames := 8, cells := 1, slots := 6, locals := 136 }) (va_Pc [.ref o, .int i0, .int i1, .int i2, .ref qL] (ny_pre D [(cI, .int), (cZ, .boolean), (cL, .long)] [(o, .inr (3, [.ref q1, .ref q2, .ref q3, .ref q4])), (q1, .inl (cI, 12, .inl hf)), (q2, .inl (cZ, 12, .inl bf)), (qL, .inl (cL, 1, .inr (.inl lf)))] sz)) (va_Qi (fun (r : Int32) (u : Unit) => r = 2) (fun (u : Unit) t => ny_at D [(cI, .int), (cZ, .boolean), (cL, .long)] (va_A [(o, .inr (3, [.ref q1, .ref q2, .ref q3, .ref q4])), (q1, .inl (cI, 12, .inl hf)), (q2, .inl (cZ, 12, .inl bf)), (qL, .inl (cL, 1, .inr (.inl lf)))] sz) [(o, .inr (3, [.ref q1, .ref q2, .ref q3, .ref q4])), (q1, .inl (cI, 12, .inl hf)), (q2, .inl (cZ, 12, .inl bf)), (qL, .inl (cL, 1, .inr (.inl lf)))] t) (va_A [(o, .inr (3, [.ref q1, .ref q2, .ref q3, .ref q4])), (q1, .inl (cI, 12, .inl hf)), (q2, .inl (cZ, 12, .inl bf)), (qL, .inl (cL, 1, .inr (.inl lf)))] sz)) 1 6 (va_A [(o, .inr (3, [.ref q1, .ref q2, .ref q3, .ref q4])), (q1, .inl (cI, 12, .inl hf)), (q2, .inl (cZ, 12, .inl bf)), (qL, .inl (cL, 1, .inr (.inl lf)))] sz) := by
  refine va_MetW (cc := cL_inverse) (maxL := 6) (ret := (some .int)) (by decide) rfl ?_
  intro p e s m args below meth c s₁ B hml hv
  obtain ⟨rfl, hsz, hP, hK, hD0, hE⟩ := hv
  have hx := B.exec
  have hb := B.bytes
  have hr := B.returns
  have hts := atoms_spec (ws := wsL_inverse) B.pre
  have hown : s.vm.findClass RL = some m.cls := findClass_of_methodNamed B.named
  have hlocks := B.notSynchronized
  have htab := vx_table (x := yL_inverse) B (hts _ List.mem_cons_self)
  subst hsz
  have hD := hD0.self (sz := s.heap.size)
  generalize hAe : va_A [(o, .inr (3, [.ref q1, .ref q2, .ref q3, .ref q4])), (q1, .inl (cI, 12, .inl hf)), (q2, .inl (cZ, 12, .inl bf)), (qL, .inl (cL, 1, .inr (.inl lf)))] s.heap.size = A at hD hE ⊢
  have hA : ∀ q : Nat, s.heap.size ≤ q → A q := fun q h => by rw [← hAe]; exact Or.inr h
  have hS : va_S A s.heap s.heap [] := va_S.rf
  have hl := lv_entry ([.ref o, .int i0, .int i1, .int i2, .ref qL]) (n := 6) (Nat.le_of_ble_eq_true rfl)
  rw [lg_entry_eq]
  generalize (lg_sl ([.ref o, .int i0, .int i1, .int i2, .ref qL]) ++ List.replicate (6 - (lg_sl ([.ref o, .int i0, .int i1, .int i2, .ref qL])).length) Slot.unset).toArray = ls at hl ⊢
  have hl : lv_has ls 6 [(0, .ref o), (1, .int i0), (2, .int i1), (3, .int i2), (4, .ref qL)] := hl
  refine lv_aload hx hb dL_inverse_0 (lv_at hl 4 rfl) ?_
  refine lv_iconst (v := 0) hx hb dL_inverse_2 (by decide) ?_
  refine lv_aload_n hx hb dL_inverse_3 rfl (lv_at hl 0 rfl) ?_
  refine lv_iload_n hx hb dL_inverse_4 rfl (lv_at hl 1 rfl) ?_
  refine lv_iload_n hx hb dL_inverse_5 rfl (lv_at hl 2 rfl) ?_
  refine lv_iload_n hx hb dL_inverse_6 rfl (lv_at hl 3 rfl) ?_
  refine ny_x hS (va_free (wc := [(o, .inr (3, [.ref q1, .ref q2, .ref q3, .ref q4])), (q1, .inl (cI, 12, .inl hf)), (q2, .inl (cZ, 12, .inl bf))]) hD hS hA [0, 1, 2] rfl) (vx_runV (As := [.int i0, .int i1, .int i2]) (rest := [.int 0, .ref qL]) ⟨hx, hb, hml, hown, hts⟩ (c_X1_inverse_no0 l D cI cZ o q1 q2 q3 q4 s.heap.size hf bf i0 i1 i2 (by assumption) (by assumption) (by assumption) (by assumption) (by assumption)) (cwV 3 hts gL_inverse_X1_inverse rfl rfl rfl (by decide +kernel) ⟨Nat.le_of_ble_eq_true rfl, Nat.le_of_ble_eq_true rfl⟩) ⟨ny_blind, va_recv hK hP (ci := 3) (q0 := 0) rfl rfl, fun U hU hW => ⟨rfl, ny_preU hE hP hK hD hS hA [0, 1, 2] rfl (by decide) rfl [0, 1] rfl U hU hW⟩⟩ rfl rfl hl.1 rfl (lv_room (Nat.le_of_ble_eq_true rfl)) dL_inverse_7 ⟨Nat.le_of_ble_eq_true rfl, Nat.le_of_ble_eq_true rfl⟩) (fun ce q9 H locs hz9 hk9 hS hc9 hv9 hn9 => ?_)
  have hP : va_P D vwCl [(o, .inr (3, [.ref q1, .ref q2, .ref q3, .ref q4])), (q1, .inl (cI, 12, .inl hf)), (q2, .inl (cZ, 12, .inl bf)), (qL, .inl (cL, 1, .inr (.inl lf)))] H := ny_keep hP hk9
  refine vx_catch (own := RL) (name := ny_AE) (E := ny_AE) hown (tableOf [(0, 11, 14, 13)]) ⟨0, 11, 18, 39⟩ (tableOf []) (htab.trans rfl) (List.forall_mem_cons.mpr ⟨Or.inr ⟨(by decide), ny_IO, (hts (.classLink RL 13 "java/lang/IndexOutOfBoundsException") (List.mem_of_getElem? (i := 1) rfl)), (hE.2.2.2.2.2.1 _ (List.mem_of_getElem? (i := 0) rfl))⟩, (fun z hz => absurd hz List.not_mem_nil)⟩) (by decide) (by decide) (hts (.classLink RL 39 "java/lang/ArithmeticException") (List.mem_of_getElem? (i := 2) rfl)) (va_Nw.use rfl (hE.2.2.2.2.1 _ (List.mem_of_getElem? (i := 2) rfl))) hc9 hv9 hn9 ?_
  refine W.eq (g2 := F0 m 18 ls [.ref q9]) rfl ?_
  refine lv_astore (lv' := [(5, .ref q9), (0, .ref o), (1, .int i0), (2, .int i1), (3, .int i2), (4, .ref qL)]) hx hb dL_inverse_18 hl (by decide) rfl (fun ls hl => ?_)
  refine lv_iconst (v := 2) hx hb dL_inverse_20 (by decide) ?_
  have hP9 := hP.sub (ws' := [(o, .inr (3, [.ref q1, .ref q2, .ref q3, .ref q4])), (q1, .inl (cI, 12, .inl hf)), (q2, .inl (cZ, 12, .inl bf)), (qL, .inl (cL, 1, .inr (.inl lf)))]) [0, 1, 2, 3] rfl
  have hD9 := hD.sub (ws' := [(o, .inr (3, [.ref q1, .ref q2, .ref q3, .ref q4])), (q1, .inl (cI, 12, .inl hf)), (q2, .inl (cZ, 12, .inl bf)), (qL, .inl (cL, 1, .inr (.inl lf)))]) [0, 1, 2, 3] (by decide) rfl
  refine W.widen (k := 1) (n := 6) (Nat.le_of_ble_eq_true rfl) (Nat.le_of_ble_eq_true rfl) ?_
  exact W.iret (v := 2) hx hb hr (fun t ht hW => ⟨⟨2, (), rfl, (rfl), by rw [ht]; exact hP9, va_K.moved hW.alike hK, hD9⟩, hS.F ht⟩) hS.2.2 dL_inverse_21
set_option maxHeartbeats 4000000 in
set_option maxRecDepth 100000 in
theorem c_L_inverse_noI (l : Launch) (D : va_G) (cI : ClassId) (cZ : ClassId) (o : Nat) (q1 : Nat) (q2 : Nat) (q3 : Nat) (q4 : Nat) (sz : Nat) (hf : Nat → Int32) (bf : Nat → Int32) (q6 : Nat) (sr : Nat → Int32) (sc : Int32) (sl : Int32) (se : Int32) (i0 : Int32) (i1 : Int32) (i2 : Int32) (cL : ClassId) (qL : Nat) (lf : Nat → Int64) (gl : l.stackTraces = false) (gp0 : vp_in i0 12) (gp1 : vp_in i1 12) (gp2 : vp_in i2 12) (g0 : ¬ hf i2.toNatClampNeg = 0) (gH : ny_H hf) (gi : f_iv (hf i1.toNatClampNeg) (hf i2.toNatClampNeg) = 128) : Met l yL_inverse wsL_inverse ({ frames := 7, cells := 1, slots := 6, locals := 121 }) (va_Pc [.ref o, .int i0, .int i1, .int i2, .ref qL] (ny_pre D [(cI, .int), (cZ, .boolean), (cL, .long)] [(o, .inr (3, [.ref q1, .ref q2, .ref q3, .ref q4])), (q1, .inl (cI, 12, .inl hf)), (q2, .inl (cZ, 12, .inl bf)), (q4, .inr (2, [.ref q6, .int sc, .int sl, .int se])), (q6, .inl (cI, 7, .inl sr)), (qL, .inl (cL, 1, .inr (.inl lf)))] sz)) (va_Qi (fun (r : Int32) (u : Unit) => r = 2) (fun (u : Unit) t => ny_at D [(cI, .int), (cZ, .boolean), (cL, .long)] (va_A [(o, .inr (3, [.ref q1, .ref q2, .ref q3, .ref q4])), (q1, .inl (cI, 12, .inl hf)), (q2, .inl (cZ, 12, .inl bf)), (q4, .inr (2, [.ref q6, .int sc, .int sl, .int se])), (q6, .inl (cI, 7, .inl sr)), (qL, .inl (cL, 1, .inr (.inl lf)))] sz) [(o, .inr (3, [.ref q1, .ref q2, .ref q3, .ref q4])), (q1, .inl (cI, 12, .inl hf)), (q2, .inl (cZ, 12, .inl bf)), (q4, .inr (2, [.ref q6, .int (nI (f_ln (hf i1.toNatClampNeg) (hf i2.toNatClampNeg))), .int (f_la (hf i1.toNatClampNeg) (hf i2.toNatClampNeg)), .int 1])), (q6, .inl (cI, 7, .inl (f_row sr (hf i1.toNatClampNeg) (hf i2.toNatClampNeg) (f_ln (hf i1.toNatClampNeg) (hf i2.toNatClampNeg))))), (qL, .inl (cL, 1, .inr (.inl lf)))] t) (va_A [(o, .inr (3, [.ref q1, .ref q2, .ref q3, .ref q4])), (q1, .inl (cI, 12, .inl hf)), (q2, .inl (cZ, 12, .inl bf)), (q4, .inr (2, [.ref q6, .int sc, .int sl, .int se])), (q6, .inl (cI, 7, .inl sr)), (qL, .inl (cL, 1, .inr (.inl lf)))] sz)) 1 6 (va_A [(o, .inr (3, [.ref q1, .ref q2, .ref q3, .ref q4])), (q1, .inl (cI, 12, .inl hf)), (q2, .inl (cZ, 12, .inl bf)), (q4, .inr (2, [.ref q6, .int sc, .int sl, .int se])), (q6, .inl (cI, 7, .inl sr)), (qL, .inl (cL, 1, .inr (.inl lf)))] sz) := by
  refine va_MetW (cc := cL_inverse) (maxL := 6) (ret := (some .int)) (by decide) rfl ?_
  intro p e s m args below meth c s₁ B hml hv
  obtain ⟨rfl, hsz, hP, hK, hD0, hE⟩ := hv
  have hx := B.exec
  have hb := B.bytes
  have hr := B.returns
  have hts := atoms_spec (ws := wsL_inverse) B.pre
  have hown : s.vm.findClass RL = some m.cls := findClass_of_methodNamed B.named
  have hlocks := B.notSynchronized
  have htab := vx_table (x := yL_inverse) B (hts _ List.mem_cons_self)
  subst hsz
  have hD := hD0.self (sz := s.heap.size)
  generalize hAe : va_A [(o, .inr (3, [.ref q1, .ref q2, .ref q3, .ref q4])), (q1, .inl (cI, 12, .inl hf)), (q2, .inl (cZ, 12, .inl bf)), (q4, .inr (2, [.ref q6, .int sc, .int sl, .int se])), (q6, .inl (cI, 7, .inl sr)), (qL, .inl (cL, 1, .inr (.inl lf)))] s.heap.size = A at hD hE ⊢
  have hA : ∀ q : Nat, s.heap.size ≤ q → A q := fun q h => by rw [← hAe]; exact Or.inr h
  have hS : va_S A s.heap s.heap [] := va_S.rf
  have hl := lv_entry ([.ref o, .int i0, .int i1, .int i2, .ref qL]) (n := 6) (Nat.le_of_ble_eq_true rfl)
  rw [lg_entry_eq]
  generalize (lg_sl ([.ref o, .int i0, .int i1, .int i2, .ref qL]) ++ List.replicate (6 - (lg_sl ([.ref o, .int i0, .int i1, .int i2, .ref qL])).length) Slot.unset).toArray = ls at hl ⊢
  have hl : lv_has ls 6 [(0, .ref o), (1, .int i0), (2, .int i1), (3, .int i2), (4, .ref qL)] := hl
  refine lv_aload hx hb dL_inverse_0 (lv_at hl 4 rfl) ?_
  refine lv_iconst (v := 0) hx hb dL_inverse_2 (by decide) ?_
  refine lv_aload_n hx hb dL_inverse_3 rfl (lv_at hl 0 rfl) ?_
  refine lv_iload_n hx hb dL_inverse_4 rfl (lv_at hl 1 rfl) ?_
  refine lv_iload_n hx hb dL_inverse_5 rfl (lv_at hl 2 rfl) ?_
  refine lv_iload_n hx hb dL_inverse_6 rfl (lv_at hl 3 rfl) ?_
  refine ny_xw (wc := [(o, .inr (3, [.ref q1, .ref q2, .ref q3, .ref q4])), (q1, .inl (cI, 12, .inl hf)), (q2, .inl (cZ, 12, .inl bf)), (q4, .inr (2, [.ref q6, .int sc, .int sl, .int se])), (q6, .inl (cI, 7, .inl sr))]) (wr := [(qL, .inl (cL, 1, .inr (.inl lf)))]) hP hD hS hA [0, 1, 2, 3, 4] [5] rfl rfl (by decide) (by decide) (vx_runV (As := [.int i0, .int i1, .int i2]) (rest := [.int 0, .ref qL]) ⟨hx, hb, hml, hown, hts⟩ (c_X1_inverse_noI l D cI cZ o q1 q2 q3 q4 s.heap.size hf bf q6 sr sc sl se i0 i1 i2 (by assumption) (by assumption) (by assumption) (by assumption) (by assumption) (by assumption) (by assumption)) (cwV 3 hts gL_inverse_X1_inverse rfl rfl rfl (by decide +kernel) ⟨Nat.le_of_ble_eq_true rfl, Nat.le_of_ble_eq_true rfl⟩) ⟨ny_blind, va_recv hK hP (ci := 3) (q0 := 0) rfl rfl, fun U hU hW => ⟨rfl, ny_preU hE hP hK hD hS hA [0, 1, 2, 3, 4] rfl (by decide) rfl [0, 1] rfl U hU hW⟩⟩ rfl rfl hl.1 rfl (lv_room (Nat.le_of_ble_eq_true rfl)) dL_inverse_7 ⟨Nat.le_of_ble_eq_true rfl, Nat.le_of_ble_eq_true rfl⟩) (fun ce q9 u9 H locs hp9 hP hD hS hc9 hv9 hn9 => ?_)
  have hP : va_P D vwCl [(qL, .inl (cL, 1, .inr (.inl lf))), (o, .inr (3, [.ref q1, .ref q2, .ref q3, .ref q4])), (q1, .inl (cI, 12, .inl hf)), (q2, .inl (cZ, 12, .inl bf)), (q4, .inr (2, [.ref q6, .int (nI (f_ln (hf i1.toNatClampNeg) (hf i2.toNatClampNeg))), .int (f_la (hf i1.toNatClampNeg) (hf i2.toNatClampNeg)), .int 1])), (q6, .inl (cI, 7, .inl (f_row sr (hf i1.toNatClampNeg) (hf i2.toNatClampNeg) (f_ln (hf i1.toNatClampNeg) (hf i2.toNatClampNeg)))))] H := hP
  have hD : va_D A [(qL, .inl (cL, 1, .inr (.inl lf))), (o, .inr (3, [.ref q1, .ref q2, .ref q3, .ref q4])), (q1, .inl (cI, 12, .inl hf)), (q2, .inl (cZ, 12, .inl bf)), (q4, .inr (2, [.ref q6, .int (nI (f_ln (hf i1.toNatClampNeg) (hf i2.toNatClampNeg))), .int (f_la (hf i1.toNatClampNeg) (hf i2.toNatClampNeg)), .int 1])), (q6, .inl (cI, 7, .inl (f_row sr (hf i1.toNatClampNeg) (hf i2.toNatClampNeg) (f_ln (hf i1.toNatClampNeg) (hf i2.toNatClampNeg)))))] := hD
  refine vx_catch (own := RL) (name := ny_AE) (E := ny_AE) hown (tableOf [(0, 11, 14, 13)]) ⟨0, 11, 18, 39⟩ (tableOf []) (htab.trans rfl) (List.forall_mem_cons.mpr ⟨Or.inr ⟨(by decide), ny_IO, (hts (.classLink RL 13 "java/lang/IndexOutOfBoundsException") (List.mem_of_getElem? (i := 1) rfl)), (hE.2.2.2.2.2.1 _ (List.mem_of_getElem? (i := 0) rfl))⟩, (fun z hz => absurd hz List.not_mem_nil)⟩) (by decide) (by decide) (hts (.classLink RL 39 "java/lang/ArithmeticException") (List.mem_of_getElem? (i := 2) rfl)) (va_Nw.use rfl (hE.2.2.2.2.1 _ (List.mem_of_getElem? (i := 2) rfl))) hc9 hv9 hn9 ?_
  refine W.eq (g2 := F0 m 18 ls [.ref q9]) rfl ?_
  refine lv_astore (lv' := [(5, .ref q9), (0, .ref o), (1, .int i0), (2, .int i1), (3, .int i2), (4, .ref qL)]) hx hb dL_inverse_18 hl (by decide) rfl (fun ls hl => ?_)
  refine lv_iconst (v := 2) hx hb dL_inverse_20 (by decide) ?_
  have hP9 := hP.sub (ws' := [(o, .inr (3, [.ref q1, .ref q2, .ref q3, .ref q4])), (q1, .inl (cI, 12, .inl hf)), (q2, .inl (cZ, 12, .inl bf)), (q4, .inr (2, [.ref q6, .int (nI (f_ln (hf i1.toNatClampNeg) (hf i2.toNatClampNeg))), .int (f_la (hf i1.toNatClampNeg) (hf i2.toNatClampNeg)), .int 1])), (q6, .inl (cI, 7, .inl (f_row sr (hf i1.toNatClampNeg) (hf i2.toNatClampNeg) (f_ln (hf i1.toNatClampNeg) (hf i2.toNatClampNeg))))), (qL, .inl (cL, 1, .inr (.inl lf)))]) [1, 2, 3, 4, 5, 0] rfl
  have hD9 := hD.sub (ws' := [(o, .inr (3, [.ref q1, .ref q2, .ref q3, .ref q4])), (q1, .inl (cI, 12, .inl hf)), (q2, .inl (cZ, 12, .inl bf)), (q4, .inr (2, [.ref q6, .int (nI (f_ln (hf i1.toNatClampNeg) (hf i2.toNatClampNeg))), .int (f_la (hf i1.toNatClampNeg) (hf i2.toNatClampNeg)), .int 1])), (q6, .inl (cI, 7, .inl (f_row sr (hf i1.toNatClampNeg) (hf i2.toNatClampNeg) (f_ln (hf i1.toNatClampNeg) (hf i2.toNatClampNeg))))), (qL, .inl (cL, 1, .inr (.inl lf)))]) [1, 2, 3, 4, 5, 0] (by decide) rfl
  refine W.widen (k := 1) (n := 6) (Nat.le_of_ble_eq_true rfl) (Nat.le_of_ble_eq_true rfl) ?_
  exact W.iret (v := 2) hx hb hr (fun t ht hW => ⟨⟨2, (), rfl, (rfl), by rw [ht]; exact hP9, va_K.moved hW.alike hK, hD9⟩, hS.F ht⟩) hS.2.2 dL_inverse_21
set_option maxHeartbeats 4000000 in
set_option maxRecDepth 100000 in
theorem c_L_order (l : Launch) (D : va_G) (cI : ClassId) (cZ : ClassId) (o : Nat) (q1 : Nat) (q2 : Nat) (q3 : Nat) (q4 : Nat) (sz : Nat) (hf : Nat → Int32) (bf : Nat → Int32) (q6 : Nat) (sr : Nat → Int32) (sc : Int32) (sl : Int32) (se : Int32) (i0 : Int32) (i1 : Int32) (cL : ClassId) (qL : Nat) (lf : Nat → Int64) (gp0 : vp_in i0 12) (gp1 : vp_in i1 12) (g0 : ¬ hf i1.toNatClampNeg = 0) (gH : ny_H hf) : Met l yL_order wsL_order ({ frames := 5, cells := 0, slots := 0, locals := 117 }) (va_Pc [.ref o, .int i0, .int i1, .ref qL] (ny_pre D [(cI, .int), (cZ, .boolean), (cL, .long)] [(o, .inr (3, [.ref q1, .ref q2, .ref q3, .ref q4])), (q1, .inl (cI, 12, .inl hf)), (q2, .inl (cZ, 12, .inl bf)), (q4, .inr (2, [.ref q6, .int sc, .int sl, .int se])), (q6, .inl (cI, 7, .inl sr)), (qL, .inl (cL, 1, .inr (.inl lf)))] sz)) (va_Qi (fun (r : Int32) (u : Unit) => r = 0) (fun (u : Unit) t => ny_at D [(cI, .int), (cZ, .boolean), (cL, .long)] (va_A [(o, .inr (3, [.ref q1, .ref q2, .ref q3, .ref q4])), (q1, .inl (cI, 12, .inl hf)), (q2, .inl (cZ, 12, .inl bf)), (q4, .inr (2, [.ref q6, .int sc, .int sl, .int se])), (q6, .inl (cI, 7, .inl sr)), (qL, .inl (cL, 1, .inr (.inl lf)))] sz) [(o, .inr (3, [.ref q1, .ref q2, .ref q3, .ref q4])), (q1, .inl (cI, 12, .inl hf)), (q2, .inl (cZ, 12, .inl bf)), (q4, .inr (2, [.ref q6, .int (nI (f_ln (hf i0.toNatClampNeg) (hf i1.toNatClampNeg))), .int (f_la (hf i0.toNatClampNeg) (hf i1.toNatClampNeg)), .int 1])), (q6, .inl (cI, 7, .inl (f_row sr (hf i0.toNatClampNeg) (hf i1.toNatClampNeg) (f_ln (hf i0.toNatClampNeg) (hf i1.toNatClampNeg))))), (qL, .inl (cL, 1, .inr (.inl (vp_updL lf (0 : Int32).toNatClampNeg ((ny_ab (hf i1.toNatClampNeg / f_gd (hf i0.toNatClampNeg) (hf i1.toNatClampNeg))).toInt64)))))] t) (va_A [(o, .inr (3, [.ref q1, .ref q2, .ref q3, .ref q4])), (q1, .inl (cI, 12, .inl hf)), (q2, .inl (cZ, 12, .inl bf)), (q4, .inr (2, [.ref q6, .int sc, .int sl, .int se])), (q6, .inl (cI, 7, .inl sr)), (qL, .inl (cL, 1, .inr (.inl lf)))] sz)) 0 0 (va_A [(o, .inr (3, [.ref q1, .ref q2, .ref q3, .ref q4])), (q1, .inl (cI, 12, .inl hf)), (q2, .inl (cZ, 12, .inl bf)), (q4, .inr (2, [.ref q6, .int sc, .int sl, .int se])), (q6, .inl (cI, 7, .inl sr)), (qL, .inl (cL, 1, .inr (.inl lf)))] sz) := by
  refine va_MetW (cc := cL_order) (maxL := 5) (ret := (some .int)) (by decide) rfl ?_
  intro p e s m args below meth c s₁ B hml hv
  obtain ⟨rfl, hsz, hP, hK, hD0, hE⟩ := hv
  have hx := B.exec
  have hb := B.bytes
  have hr := B.returns
  have hts := atoms_spec (ws := wsL_order) B.pre
  have hown : s.vm.findClass RL = some m.cls := findClass_of_methodNamed B.named
  have hlocks := B.notSynchronized
  have htab := vx_table (x := yL_order) B (hts _ List.mem_cons_self)
  subst hsz
  have hD := hD0.self (sz := s.heap.size)
  generalize hAe : va_A [(o, .inr (3, [.ref q1, .ref q2, .ref q3, .ref q4])), (q1, .inl (cI, 12, .inl hf)), (q2, .inl (cZ, 12, .inl bf)), (q4, .inr (2, [.ref q6, .int sc, .int sl, .int se])), (q6, .inl (cI, 7, .inl sr)), (qL, .inl (cL, 1, .inr (.inl lf)))] s.heap.size = A at hD hE ⊢
  have hA : ∀ q : Nat, s.heap.size ≤ q → A q := fun q h => by rw [← hAe]; exact Or.inr h
  have hS : va_S A s.heap s.heap [] := va_S.rf
  have hl := lv_entry ([.ref o, .int i0, .int i1, .ref qL]) (n := 5) (Nat.le_of_ble_eq_true rfl)
  rw [lg_entry_eq]
  generalize (lg_sl ([.ref o, .int i0, .int i1, .ref qL]) ++ List.replicate (5 - (lg_sl ([.ref o, .int i0, .int i1, .ref qL])).length) Slot.unset).toArray = ls at hl ⊢
  have hl : lv_has ls 5 [(0, .ref o), (1, .int i0), (2, .int i1), (3, .ref qL)] := hl
  refine lv_aload_n hx hb dL_order_0 rfl (lv_at hl 3 rfl) ?_
  refine lv_iconst (v := 0) hx hb dL_order_1 (by decide) ?_
  refine lv_aload_n hx hb dL_order_2 rfl (lv_at hl 0 rfl) ?_
  refine lv_iload_n hx hb dL_order_3 rfl (lv_at hl 1 rfl) ?_
  refine lv_iload_n hx hb dL_order_4 rfl (lv_at hl 2 rfl) ?_
  refine ny_i (wc := [(o, .inr (3, [.ref q1, .ref q2, .ref q3, .ref q4])), (q1, .inl (cI, 12, .inl hf)), (q2, .inl (cZ, 12, .inl bf)), (q4, .inr (2, [.ref q6, .int sc, .int sl, .int se])), (q6, .inl (cI, 7, .inl sr))]) (wr := [(qL, .inl (cL, 1, .inr (.inl lf)))]) hP hD hS hA [0, 1, 2, 3, 4] [5] rfl rfl (by decide) (by decide) (va_runV (As := [.int i0, .int i1]) (rest := [.int 0, .ref qL]) ⟨hx, hb, hml, hown, hts⟩ (c_X1_order l D cI cZ o q1 q2 q3 q4 s.heap.size hf bf q6 sr sc sl se i0 i1 (by assumption) (by assumption) (by assumption) (by assumption)) (cwV 2 hts gL_order_X1_order rfl rfl rfl (by decide +kernel) ⟨Nat.le_of_ble_eq_true rfl, Nat.le_of_ble_eq_true rfl⟩) ⟨ny_blind, va_recv hK hP (ci := 3) (q0 := 0) rfl rfl, fun U hU hW => ⟨rfl, ny_preU hE hP hK hD hS hA [0, 1, 2, 3, 4] rfl (by decide) rfl [0, 1] rfl U hU hW⟩⟩ rfl rfl hl.1 rfl (lv_room (Nat.le_of_ble_eq_true rfl)) dL_order_5 ⟨Nat.le_of_ble_eq_true rfl, Nat.le_of_ble_eq_true rfl⟩) (fun r_5 u H locs hw_5 hP hD hS => ?_)
  have hP : va_P D vwCl [(qL, .inl (cL, 1, .inr (.inl lf))), (o, .inr (3, [.ref q1, .ref q2, .ref q3, .ref q4])), (q1, .inl (cI, 12, .inl hf)), (q2, .inl (cZ, 12, .inl bf)), (q4, .inr (2, [.ref q6, .int (nI (f_ln (hf i0.toNatClampNeg) (hf i1.toNatClampNeg))), .int (f_la (hf i0.toNatClampNeg) (hf i1.toNatClampNeg)), .int 1])), (q6, .inl (cI, 7, .inl (f_row sr (hf i0.toNatClampNeg) (hf i1.toNatClampNeg) (f_ln (hf i0.toNatClampNeg) (hf i1.toNatClampNeg)))))] H := hP
  have hD : va_D A [(qL, .inl (cL, 1, .inr (.inl lf))), (o, .inr (3, [.ref q1, .ref q2, .ref q3, .ref q4])), (q1, .inl (cI, 12, .inl hf)), (q2, .inl (cZ, 12, .inl bf)), (q4, .inr (2, [.ref q6, .int (nI (f_ln (hf i0.toNatClampNeg) (hf i1.toNatClampNeg))), .int (f_la (hf i0.toNatClampNeg) (hf i1.toNatClampNeg)), .int 1])), (q6, .inl (cI, 7, .inl (f_row sr (hf i0.toNatClampNeg) (hf i1.toNatClampNeg) (f_ln (hf i0.toNatClampNeg) (hf i1.toNatClampNeg)))))] := hD
  have hw_5 : r_5 = ny_ab (hf i1.toNatClampNeg / f_gd (hf i0.toNatClampNeg) (hf i1.toNatClampNeg)) := hw_5
  subst hw_5
  refine lv_i2l hx hb dL_order_8 rfl ?_
  refine va_last hx hb hK hP hD hS 0 2 rfl rfl (vp_in_iff.mpr (by decide)) dL_order_9 (fun H locs hP hD hS => ?_)
  have hP : va_P D vwCl [(qL, .inl (cL, 1, .inr (.inl (vp_updL lf (0 : Int32).toNatClampNeg ((ny_ab (hf i1.toNatClampNeg / f_gd (hf i0.toNatClampNeg) (hf i1.toNatClampNeg))).toInt64))))), (o, .inr (3, [.ref q1, .ref q2, .ref q3, .ref q4])), (q1, .inl (cI, 12, .inl hf)), (q2, .inl (cZ, 12, .inl bf)), (q4, .inr (2, [.ref q6, .int (nI (f_ln (hf i0.toNatClampNeg) (hf i1.toNatClampNeg))), .int (f_la (hf i0.toNatClampNeg) (hf i1.toNatClampNeg)), .int 1])), (q6, .inl (cI, 7, .inl (f_row sr (hf i0.toNatClampNeg) (hf i1.toNatClampNeg) (f_ln (hf i0.toNatClampNeg) (hf i1.toNatClampNeg)))))] H := hP
  have hD : va_D A [(qL, .inl (cL, 1, .inr (.inl (vp_updL lf (0 : Int32).toNatClampNeg ((ny_ab (hf i1.toNatClampNeg / f_gd (hf i0.toNatClampNeg) (hf i1.toNatClampNeg))).toInt64))))), (o, .inr (3, [.ref q1, .ref q2, .ref q3, .ref q4])), (q1, .inl (cI, 12, .inl hf)), (q2, .inl (cZ, 12, .inl bf)), (q4, .inr (2, [.ref q6, .int (nI (f_ln (hf i0.toNatClampNeg) (hf i1.toNatClampNeg))), .int (f_la (hf i0.toNatClampNeg) (hf i1.toNatClampNeg)), .int 1])), (q6, .inl (cI, 7, .inl (f_row sr (hf i0.toNatClampNeg) (hf i1.toNatClampNeg) (f_ln (hf i0.toNatClampNeg) (hf i1.toNatClampNeg)))))] := hD
  refine lv_goto (tgt := 21) hx hb dL_order_10 (by decide) ?_
  refine lv_iconst (v := 0) hx hb dL_order_21 (by decide) ?_
  have hP9 := hP.sub (ws' := [(o, .inr (3, [.ref q1, .ref q2, .ref q3, .ref q4])), (q1, .inl (cI, 12, .inl hf)), (q2, .inl (cZ, 12, .inl bf)), (q4, .inr (2, [.ref q6, .int (nI (f_ln (hf i0.toNatClampNeg) (hf i1.toNatClampNeg))), .int (f_la (hf i0.toNatClampNeg) (hf i1.toNatClampNeg)), .int 1])), (q6, .inl (cI, 7, .inl (f_row sr (hf i0.toNatClampNeg) (hf i1.toNatClampNeg) (f_ln (hf i0.toNatClampNeg) (hf i1.toNatClampNeg))))), (qL, .inl (cL, 1, .inr (.inl (vp_updL lf (0 : Int32).toNatClampNeg ((ny_ab (hf i1.toNatClampNeg / f_gd (hf i0.toNatClampNeg) (hf i1.toNatClampNeg))).toInt64)))))]) [1, 2, 3, 4, 5, 0] rfl
  have hD9 := hD.sub (ws' := [(o, .inr (3, [.ref q1, .ref q2, .ref q3, .ref q4])), (q1, .inl (cI, 12, .inl hf)), (q2, .inl (cZ, 12, .inl bf)), (q4, .inr (2, [.ref q6, .int (nI (f_ln (hf i0.toNatClampNeg) (hf i1.toNatClampNeg))), .int (f_la (hf i0.toNatClampNeg) (hf i1.toNatClampNeg)), .int 1])), (q6, .inl (cI, 7, .inl (f_row sr (hf i0.toNatClampNeg) (hf i1.toNatClampNeg) (f_ln (hf i0.toNatClampNeg) (hf i1.toNatClampNeg))))), (qL, .inl (cL, 1, .inr (.inl (vp_updL lf (0 : Int32).toNatClampNeg ((ny_ab (hf i1.toNatClampNeg / f_gd (hf i0.toNatClampNeg) (hf i1.toNatClampNeg))).toInt64)))))]) [1, 2, 3, 4, 5, 0] (by decide) rfl
  exact W.iret (v := 0) hx hb hr (fun t ht hW => ⟨⟨0, (), rfl, (rfl), by rw [ht]; exact hP9, va_K.moved hW.alike hK, hD9⟩, hS.F ht⟩) hS.2.2 dL_order_22
set_option maxHeartbeats 4000000 in
set_option maxRecDepth 100000 in
theorem c_L_order_noP (l : Launch) (D : va_G) (cI : ClassId) (cZ : ClassId) (o : Nat) (q1 : Nat) (q2 : Nat) (q3 : Nat) (q4 : Nat) (sz : Nat) (hf : Nat → Int32) (bf : Nat → Int32) (i0 : Int32) (i1 : Int32) (cL : ClassId) (qL : Nat) (lf : Nat → Int64) (gl : l.stackTraces = false) (gb : ¬ vp_in i0 12 ∨ ¬ vp_in i1 12) : Met l yL_order wsL_order ({ frames := 9, cells := 1, slots := 6, locals := 154 }) (va_Pc [.ref o, .int i0, .int i1, .ref qL] (ny_pre D [(cI, .int), (cZ, .boolean), (cL, .long)] [(o, .inr (3, [.ref q1, .ref q2, .ref q3, .ref q4])), (q1, .inl (cI, 12, .inl hf)), (q2, .inl (cZ, 12, .inl bf)), (qL, .inl (cL, 1, .inr (.inl lf)))] sz)) (va_Qi (fun (r : Int32) (u : Unit) => r = 1) (fun (u : Unit) t => ny_at D [(cI, .int), (cZ, .boolean), (cL, .long)] (va_A [(o, .inr (3, [.ref q1, .ref q2, .ref q3, .ref q4])), (q1, .inl (cI, 12, .inl hf)), (q2, .inl (cZ, 12, .inl bf)), (qL, .inl (cL, 1, .inr (.inl lf)))] sz) [(o, .inr (3, [.ref q1, .ref q2, .ref q3, .ref q4])), (q1, .inl (cI, 12, .inl hf)), (q2, .inl (cZ, 12, .inl bf)), (qL, .inl (cL, 1, .inr (.inl lf)))] t) (va_A [(o, .inr (3, [.ref q1, .ref q2, .ref q3, .ref q4])), (q1, .inl (cI, 12, .inl hf)), (q2, .inl (cZ, 12, .inl bf)), (qL, .inl (cL, 1, .inr (.inl lf)))] sz)) 1 6 (va_A [(o, .inr (3, [.ref q1, .ref q2, .ref q3, .ref q4])), (q1, .inl (cI, 12, .inl hf)), (q2, .inl (cZ, 12, .inl bf)), (qL, .inl (cL, 1, .inr (.inl lf)))] sz) := by
  refine va_MetW (cc := cL_order) (maxL := 5) (ret := (some .int)) (by decide) rfl ?_
  intro p e s m args below meth c s₁ B hml hv
  obtain ⟨rfl, hsz, hP, hK, hD0, hE⟩ := hv
  have hx := B.exec
  have hb := B.bytes
  have hr := B.returns
  have hts := atoms_spec (ws := wsL_order) B.pre
  have hown : s.vm.findClass RL = some m.cls := findClass_of_methodNamed B.named
  have hlocks := B.notSynchronized
  have htab := vx_table (x := yL_order) B (hts _ List.mem_cons_self)
  subst hsz
  have hD := hD0.self (sz := s.heap.size)
  generalize hAe : va_A [(o, .inr (3, [.ref q1, .ref q2, .ref q3, .ref q4])), (q1, .inl (cI, 12, .inl hf)), (q2, .inl (cZ, 12, .inl bf)), (qL, .inl (cL, 1, .inr (.inl lf)))] s.heap.size = A at hD hE ⊢
  have hA : ∀ q : Nat, s.heap.size ≤ q → A q := fun q h => by rw [← hAe]; exact Or.inr h
  have hS : va_S A s.heap s.heap [] := va_S.rf
  have hl := lv_entry ([.ref o, .int i0, .int i1, .ref qL]) (n := 5) (Nat.le_of_ble_eq_true rfl)
  rw [lg_entry_eq]
  generalize (lg_sl ([.ref o, .int i0, .int i1, .ref qL]) ++ List.replicate (5 - (lg_sl ([.ref o, .int i0, .int i1, .ref qL])).length) Slot.unset).toArray = ls at hl ⊢
  have hl : lv_has ls 5 [(0, .ref o), (1, .int i0), (2, .int i1), (3, .ref qL)] := hl
  refine lv_aload_n hx hb dL_order_0 rfl (lv_at hl 3 rfl) ?_
  refine lv_iconst (v := 0) hx hb dL_order_1 (by decide) ?_
  refine lv_aload_n hx hb dL_order_2 rfl (lv_at hl 0 rfl) ?_
  refine lv_iload_n hx hb dL_order_3 rfl (lv_at hl 1 rfl) ?_
  refine lv_iload_n hx hb dL_order_4 rfl (lv_at hl 2 rfl) ?_
  refine ny_x hS (va_free (wc := [(o, .inr (3, [.ref q1, .ref q2, .ref q3, .ref q4])), (q1, .inl (cI, 12, .inl hf)), (q2, .inl (cZ, 12, .inl bf))]) hD hS hA [0, 1, 2] rfl) (vx_runV (As := [.int i0, .int i1]) (rest := [.int 0, .ref qL]) ⟨hx, hb, hml, hown, hts⟩ (c_X1_order_noP l D cI cZ o q1 q2 q3 q4 s.heap.size hf bf i0 i1 (by assumption) (by assumption)) (cwV 2 hts gL_order_X1_order rfl rfl rfl (by decide +kernel) ⟨Nat.le_of_ble_eq_true rfl, Nat.le_of_ble_eq_true rfl⟩) ⟨ny_blind, va_recv hK hP (ci := 3) (q0 := 0) rfl rfl, fun U hU hW => ⟨rfl, ny_preU hE hP hK hD hS hA [0, 1, 2] rfl (by decide) rfl [0, 1] rfl U hU hW⟩⟩ rfl rfl hl.1 rfl (lv_room (Nat.le_of_ble_eq_true rfl)) dL_order_5 ⟨Nat.le_of_ble_eq_true rfl, Nat.le_of_ble_eq_true rfl⟩) (fun ce q9 H locs hz9 hk9 hS hc9 hv9 hn9 => ?_)
  have hP : va_P D vwCl [(o, .inr (3, [.ref q1, .ref q2, .ref q3, .ref q4])), (q1, .inl (cI, 12, .inl hf)), (q2, .inl (cZ, 12, .inl bf)), (qL, .inl (cL, 1, .inr (.inl lf)))] H := ny_keep hP hk9
  refine vx_catch (own := RL) (name := ny_IO) (E := ny_IO) hown (tableOf []) ⟨0, 10, 13, 13⟩ (tableOf [(0, 10, 17, 39)]) (htab.trans rfl) (fun z hz => absurd hz List.not_mem_nil) (by decide) (by decide) (hts (.classLink RL 13 "java/lang/IndexOutOfBoundsException") (List.mem_of_getElem? (i := 1) rfl)) (va_Nw.use rfl (hE.2.2.2.2.1 _ (List.mem_of_getElem? (i := 0) rfl))) hc9 hv9 hn9 ?_
  refine W.eq (g2 := F0 m 13 ls [.ref q9]) rfl ?_
  refine lv_astore (lv' := [(4, .ref q9), (0, .ref o), (1, .int i0), (2, .int i1), (3, .ref qL)]) hx hb dL_order_13 hl (by decide) rfl (fun ls hl => ?_)
  refine lv_iconst (v := 1) hx hb dL_order_15 (by decide) ?_
  have hP9 := hP.sub (ws' := [(o, .inr (3, [.ref q1, .ref q2, .ref q3, .ref q4])), (q1, .inl (cI, 12, .inl hf)), (q2, .inl (cZ, 12, .inl bf)), (qL, .inl (cL, 1, .inr (.inl lf)))]) [0, 1, 2, 3] rfl
  have hD9 := hD.sub (ws' := [(o, .inr (3, [.ref q1, .ref q2, .ref q3, .ref q4])), (q1, .inl (cI, 12, .inl hf)), (q2, .inl (cZ, 12, .inl bf)), (qL, .inl (cL, 1, .inr (.inl lf)))]) [0, 1, 2, 3] (by decide) rfl
  refine W.widen (k := 1) (n := 6) (Nat.le_of_ble_eq_true rfl) (Nat.le_of_ble_eq_true rfl) ?_
  exact W.iret (v := 1) hx hb hr (fun t ht hW => ⟨⟨1, (), rfl, (rfl), by rw [ht]; exact hP9, va_K.moved hW.alike hK, hD9⟩, hS.F ht⟩) hS.2.2 dL_order_16
set_option maxHeartbeats 4000000 in
set_option maxRecDepth 100000 in
theorem c_L_order_no0 (l : Launch) (D : va_G) (cI : ClassId) (cZ : ClassId) (o : Nat) (q1 : Nat) (q2 : Nat) (q3 : Nat) (q4 : Nat) (sz : Nat) (hf : Nat → Int32) (bf : Nat → Int32) (i0 : Int32) (i1 : Int32) (cL : ClassId) (qL : Nat) (lf : Nat → Int64) (gl : l.stackTraces = false) (gp0 : vp_in i0 12) (gp1 : vp_in i1 12) (g0 : hf i1.toNatClampNeg = 0) : Met l yL_order wsL_order ({ frames := 8, cells := 1, slots := 6, locals := 134 }) (va_Pc [.ref o, .int i0, .int i1, .ref qL] (ny_pre D [(cI, .int), (cZ, .boolean), (cL, .long)] [(o, .inr (3, [.ref q1, .ref q2, .ref q3, .ref q4])), (q1, .inl (cI, 12, .inl hf)), (q2, .inl (cZ, 12, .inl bf)), (qL, .inl (cL, 1, .inr (.inl lf)))] sz)) (va_Qi (fun (r : Int32) (u : Unit) => r = 2) (fun (u : Unit) t => ny_at D [(cI, .int), (cZ, .boolean), (cL, .long)] (va_A [(o, .inr (3, [.ref q1, .ref q2, .ref q3, .ref q4])), (q1, .inl (cI, 12, .inl hf)), (q2, .inl (cZ, 12, .inl bf)), (qL, .inl (cL, 1, .inr (.inl lf)))] sz) [(o, .inr (3, [.ref q1, .ref q2, .ref q3, .ref q4])), (q1, .inl (cI, 12, .inl hf)), (q2, .inl (cZ, 12, .inl bf)), (qL, .inl (cL, 1, .inr (.inl lf)))] t) (va_A [(o, .inr (3, [.ref q1, .ref q2, .ref q3, .ref q4])), (q1, .inl (cI, 12, .inl hf)), (q2, .inl (cZ, 12, .inl bf)), (qL, .inl (cL, 1, .inr (.inl lf)))] sz)) 1 6 (va_A [(o, .inr (3, [.ref q1, .ref q2, .ref q3, .ref q4])), (q1, .inl (cI, 12, .inl hf)), (q2, .inl (cZ, 12, .inl bf)), (qL, .inl (cL, 1, .inr (.inl lf)))] sz) := by
  refine va_MetW (cc := cL_order) (maxL := 5) (ret := (some .int)) (by decide) rfl ?_
  intro p e s m args below meth c s₁ B hml hv
  obtain ⟨rfl, hsz, hP, hK, hD0, hE⟩ := hv
  have hx := B.exec
  have hb := B.bytes
  have hr := B.returns
  have hts := atoms_spec (ws := wsL_order) B.pre
  have hown : s.vm.findClass RL = some m.cls := findClass_of_methodNamed B.named
  have hlocks := B.notSynchronized
  have htab := vx_table (x := yL_order) B (hts _ List.mem_cons_self)
  subst hsz
  have hD := hD0.self (sz := s.heap.size)
  generalize hAe : va_A [(o, .inr (3, [.ref q1, .ref q2, .ref q3, .ref q4])), (q1, .inl (cI, 12, .inl hf)), (q2, .inl (cZ, 12, .inl bf)), (qL, .inl (cL, 1, .inr (.inl lf)))] s.heap.size = A at hD hE ⊢
  have hA : ∀ q : Nat, s.heap.size ≤ q → A q := fun q h => by rw [← hAe]; exact Or.inr h
  have hS : va_S A s.heap s.heap [] := va_S.rf
  have hl := lv_entry ([.ref o, .int i0, .int i1, .ref qL]) (n := 5) (Nat.le_of_ble_eq_true rfl)
  rw [lg_entry_eq]
  generalize (lg_sl ([.ref o, .int i0, .int i1, .ref qL]) ++ List.replicate (5 - (lg_sl ([.ref o, .int i0, .int i1, .ref qL])).length) Slot.unset).toArray = ls at hl ⊢
  have hl : lv_has ls 5 [(0, .ref o), (1, .int i0), (2, .int i1), (3, .ref qL)] := hl
  refine lv_aload_n hx hb dL_order_0 rfl (lv_at hl 3 rfl) ?_
  refine lv_iconst (v := 0) hx hb dL_order_1 (by decide) ?_
  refine lv_aload_n hx hb dL_order_2 rfl (lv_at hl 0 rfl) ?_
  refine lv_iload_n hx hb dL_order_3 rfl (lv_at hl 1 rfl) ?_
  refine lv_iload_n hx hb dL_order_4 rfl (lv_at hl 2 rfl) ?_
  refine ny_x hS (va_free (wc := [(o, .inr (3, [.ref q1, .ref q2, .ref q3, .ref q4])), (q1, .inl (cI, 12, .inl hf)), (q2, .inl (cZ, 12, .inl bf))]) hD hS hA [0, 1, 2] rfl) (vx_runV (As := [.int i0, .int i1]) (rest := [.int 0, .ref qL]) ⟨hx, hb, hml, hown, hts⟩ (c_X1_order_no0 l D cI cZ o q1 q2 q3 q4 s.heap.size hf bf i0 i1 (by assumption) (by assumption) (by assumption) (by assumption)) (cwV 2 hts gL_order_X1_order rfl rfl rfl (by decide +kernel) ⟨Nat.le_of_ble_eq_true rfl, Nat.le_of_ble_eq_true rfl⟩) ⟨ny_blind, va_recv hK hP (ci := 3) (q0 := 0) rfl rfl, fun U hU hW => ⟨rfl, ny_preU hE hP hK hD hS hA [0, 1, 2] rfl (by decide) rfl [0, 1] rfl U hU hW⟩⟩ rfl rfl hl.1 rfl (lv_room (Nat.le_of_ble_eq_true rfl)) dL_order_5 ⟨Nat.le_of_ble_eq_true rfl, Nat.le_of_ble_eq_true rfl⟩) (fun ce q9 H locs hz9 hk9 hS hc9 hv9 hn9 => ?_)
  have hP : va_P D vwCl [(o, .inr (3, [.ref q1, .ref q2, .ref q3, .ref q4])), (q1, .inl (cI, 12, .inl hf)), (q2, .inl (cZ, 12, .inl bf)), (qL, .inl (cL, 1, .inr (.inl lf)))] H := ny_keep hP hk9
  refine vx_catch (own := RL) (name := ny_AE) (E := ny_AE) hown (tableOf [(0, 10, 13, 13)]) ⟨0, 10, 17, 39⟩ (tableOf []) (htab.trans rfl) (List.forall_mem_cons.mpr ⟨Or.inr ⟨(by decide), ny_IO, (hts (.classLink RL 13 "java/lang/IndexOutOfBoundsException") (List.mem_of_getElem? (i := 1) rfl)), (hE.2.2.2.2.2.1 _ (List.mem_of_getElem? (i := 0) rfl))⟩, (fun z hz => absurd hz List.not_mem_nil)⟩) (by decide) (by decide) (hts (.classLink RL 39 "java/lang/ArithmeticException") (List.mem_of_getElem? (i := 2) rfl)) (va_Nw.use rfl (hE.2.2.2.2.1 _ (List.mem_of_getElem? (i := 2) rfl))) hc9 hv9 hn9 ?_
  refine W.eq (g2 := F0 m 17 ls [.ref q9]) rfl ?_
  refine lv_astore (lv' := [(4, .ref q9), (0, .ref o), (1, .int i0), (2, .int i1), (3, .ref qL)]) hx hb dL_order_17 hl (by decide) rfl (fun ls hl => ?_)
  refine lv_iconst (v := 2) hx hb dL_order_19 (by decide) ?_
  have hP9 := hP.sub (ws' := [(o, .inr (3, [.ref q1, .ref q2, .ref q3, .ref q4])), (q1, .inl (cI, 12, .inl hf)), (q2, .inl (cZ, 12, .inl bf)), (qL, .inl (cL, 1, .inr (.inl lf)))]) [0, 1, 2, 3] rfl
  have hD9 := hD.sub (ws' := [(o, .inr (3, [.ref q1, .ref q2, .ref q3, .ref q4])), (q1, .inl (cI, 12, .inl hf)), (q2, .inl (cZ, 12, .inl bf)), (qL, .inl (cL, 1, .inr (.inl lf)))]) [0, 1, 2, 3] (by decide) rfl
  refine W.widen (k := 1) (n := 6) (Nat.le_of_ble_eq_true rfl) (Nat.le_of_ble_eq_true rfl) ?_
  exact W.iret (v := 2) hx hb hr (fun t ht hW => ⟨⟨2, (), rfl, (rfl), by rw [ht]; exact hP9, va_K.moved hW.alike hK, hD9⟩, hS.F ht⟩) hS.2.2 dL_order_20
set_option maxHeartbeats 4000000 in
set_option maxRecDepth 100000 in
theorem c_L_measure (l : Launch) (D : va_G) (cI : ClassId) (cZ : ClassId) (o : Nat) (q1 : Nat) (q2 : Nat) (q3 : Nat) (q4 : Nat) (sz : Nat) (hf : Nat → Int32) (bf : Nat → Int32) (q6 : Nat) (sr : Nat → Int32) (sc : Int32) (sl : Int32) (se : Int32) (i0 : Int32) (i1 : Int32) (i2 : Int32) (cL : ClassId) (qL : Nat) (lf : Nat → Int64) (gp0 : vp_in i0 12) (gp1 : vp_in i1 12) (gp2 : vp_in i2 12) (gH : ny_H hf) : Met l yL_measure wsL_measure ({ frames := 5, cells := 0, slots := 0, locals := 118 }) (va_Pc [.ref o, .int i0, .int i1, .int i2, .ref qL] (ny_pre D [(cI, .int), (cZ, .boolean), (cL, .long)] [(o, .inr (3, [.ref q1, .ref q2, .ref q3, .ref q4])), (q1, .inl (cI, 12, .inl hf)), (q2, .inl (cZ, 12, .inl bf)), (q4, .inr (2, [.ref q6, .int sc, .int sl, .int se])), (q6, .inl (cI, 7, .inl sr)), (qL, .inl (cL, 1, .inr (.inl lf)))] sz)) (va_Qi (fun (r : Int32) (u : Unit) => r = 0) (fun (u : Unit) t => ny_at D [(cI, .int), (cZ, .boolean), (cL, .long)] (va_A [(o, .inr (3, [.ref q1, .ref q2, .ref q3, .ref q4])), (q1, .inl (cI, 12, .inl hf)), (q2, .inl (cZ, 12, .inl bf)), (q4, .inr (2, [.ref q6, .int sc, .int sl, .int se])), (q6, .inl (cI, 7, .inl sr)), (qL, .inl (cL, 1, .inr (.inl lf)))] sz) [(o, .inr (3, [.ref q1, .ref q2, .ref q3, .ref q4])), (q1, .inl (cI, 12, .inl (upd hf i0.toNatClampNeg (f_gd (hf i1.toNatClampNeg) (hf i2.toNatClampNeg))))), (q2, .inl (cZ, 12, .inl (upd bf i0.toNatClampNeg 0))), (q4, .inr (2, [.ref q6, .int (nI (f_ln (hf i1.toNatClampNeg) (hf i2.toNatClampNeg))), .int (f_la (hf i1.toNatClampNeg) (hf i2.toNatClampNeg)), .int 1])), (q6, .inl (cI, 7, .inl (f_row sr (hf i1.toNatClampNeg) (hf i2.toNatClampNeg) (f_ln (hf i1.toNatClampNeg) (hf i2.toNatClampNeg))))), (qL, .inl (cL, 1, .inr (.inl (vp_updL lf (0 : Int32).toNatClampNeg (f_bt (f_gd (hf i1.toNatClampNeg) (hf i2.toNatClampNeg)) 0)))))] t) (va_A [(o, .inr (3, [.ref q1, .ref q2, .ref q3, .ref q4])), (q1, .inl (cI, 12, .inl hf)), (q2, .inl (cZ, 12, .inl bf)), (q4, .inr (2, [.ref q6, .int sc, .int sl, .int se])), (q6, .inl (cI, 7, .inl sr)), (qL, .inl (cL, 1, .inr (.inl lf)))] sz)) 0 0 (va_A [(o, .inr (3, [.ref q1, .ref q2, .ref q3, .ref q4])), (q1, .inl (cI, 12, .inl hf)), (q2, .inl (cZ, 12, .inl bf)), (q4, .inr (2, [.ref q6, .int sc, .int sl, .int se])), (q6, .inl (cI, 7, .inl sr)), (qL, .inl (cL, 1, .inr (.inl lf)))] sz) := by
  refine va_MetW (cc := cL_measure) (maxL := 6) (ret := (some .int)) (by decide) rfl ?_
  intro p e s m args below meth c s₁ B hml hv
  obtain ⟨rfl, hsz, hP, hK, hD0, hE⟩ := hv
  have hx := B.exec
  have hb := B.bytes
  have hr := B.returns
  have hts := atoms_spec (ws := wsL_measure) B.pre
  have hown : s.vm.findClass RL = some m.cls := findClass_of_methodNamed B.named
  have hlocks := B.notSynchronized
  have htab := vx_table (x := yL_measure) B (hts _ List.mem_cons_self)
  subst hsz
  have hD := hD0.self (sz := s.heap.size)
  generalize hAe : va_A [(o, .inr (3, [.ref q1, .ref q2, .ref q3, .ref q4])), (q1, .inl (cI, 12, .inl hf)), (q2, .inl (cZ, 12, .inl bf)), (q4, .inr (2, [.ref q6, .int sc, .int sl, .int se])), (q6, .inl (cI, 7, .inl sr)), (qL, .inl (cL, 1, .inr (.inl lf)))] s.heap.size = A at hD hE ⊢
  have hA : ∀ q : Nat, s.heap.size ≤ q → A q := fun q h => by rw [← hAe]; exact Or.inr h
  have hS : va_S A s.heap s.heap [] := va_S.rf
  have hl := lv_entry ([.ref o, .int i0, .int i1, .int i2, .ref qL]) (n := 6) (Nat.le_of_ble_eq_true rfl)
  rw [lg_entry_eq]
  generalize (lg_sl ([.ref o, .int i0, .int i1, .int i2, .ref qL]) ++ List.replicate (6 - (lg_sl ([.ref o, .int i0, .int i1, .int i2, .ref qL])).length) Slot.unset).toArray = ls at hl ⊢
  have hl : lv_has ls 6 [(0, .ref o), (1, .int i0), (2, .int i1), (3, .int i2), (4, .ref qL)] := hl
  refine lv_aload hx hb dL_measure_0 (lv_at hl 4 rfl) ?_
  refine lv_iconst (v := 0) hx hb dL_measure_2 (by decide) ?_
  refine lv_aload_n hx hb dL_measure_3 rfl (lv_at hl 0 rfl) ?_
  refine lv_iload_n hx hb dL_measure_4 rfl (lv_at hl 1 rfl) ?_
  refine lv_iload_n hx hb dL_measure_5 rfl (lv_at hl 2 rfl) ?_
  refine lv_iload_n hx hb dL_measure_6 rfl (lv_at hl 3 rfl) ?_
  refine ny_l (wc := [(o, .inr (3, [.ref q1, .ref q2, .ref q3, .ref q4])), (q1, .inl (cI, 12, .inl hf)), (q2, .inl (cZ, 12, .inl bf)), (q4, .inr (2, [.ref q6, .int sc, .int sl, .int se])), (q6, .inl (cI, 7, .inl sr))]) (wr := [(qL, .inl (cL, 1, .inr (.inl lf)))]) hP hD hS hA [0, 1, 2, 3, 4] [5] rfl rfl (by decide) (by decide) (va_runV (As := [.int i0, .int i1, .int i2]) (rest := [.int 0, .ref qL]) ⟨hx, hb, hml, hown, hts⟩ (c_X1_measure l D cI cZ o q1 q2 q3 q4 s.heap.size hf bf q6 sr sc sl se i0 i1 i2 (by assumption) (by assumption) (by assumption) (by assumption)) (cwV 3 hts gL_measure_X1_measure rfl rfl rfl (by decide +kernel) ⟨Nat.le_of_ble_eq_true rfl, Nat.le_of_ble_eq_true rfl⟩) ⟨ny_blind, va_recv hK hP (ci := 3) (q0 := 0) rfl rfl, fun U hU hW => ⟨rfl, ny_preU hE hP hK hD hS hA [0, 1, 2, 3, 4] rfl (by decide) rfl [0, 1] rfl U hU hW⟩⟩ rfl rfl hl.1 rfl (lv_room (Nat.le_of_ble_eq_true rfl)) dL_measure_7 ⟨Nat.le_of_ble_eq_true rfl, Nat.le_of_ble_eq_true rfl⟩) (fun r_7 u H locs hw_7 hP hD hS => ?_)
  have hP : va_P D vwCl [(qL, .inl (cL, 1, .inr (.inl lf))), (o, .inr (3, [.ref q1, .ref q2, .ref q3, .ref q4])), (q1, .inl (cI, 12, .inl (upd hf i0.toNatClampNeg (f_gd (hf i1.toNatClampNeg) (hf i2.toNatClampNeg))))), (q2, .inl (cZ, 12, .inl (upd bf i0.toNatClampNeg 0))), (q4, .inr (2, [.ref q6, .int (nI (f_ln (hf i1.toNatClampNeg) (hf i2.toNatClampNeg))), .int (f_la (hf i1.toNatClampNeg) (hf i2.toNatClampNeg)), .int 1])), (q6, .inl (cI, 7, .inl (f_row sr (hf i1.toNatClampNeg) (hf i2.toNatClampNeg) (f_ln (hf i1.toNatClampNeg) (hf i2.toNatClampNeg)))))] H := hP
  have hD : va_D A [(qL, .inl (cL, 1, .inr (.inl lf))), (o, .inr (3, [.ref q1, .ref q2, .ref q3, .ref q4])), (q1, .inl (cI, 12, .inl (upd hf i0.toNatClampNeg (f_gd (hf i1.toNatClampNeg) (hf i2.toNatClampNeg))))), (q2, .inl (cZ, 12, .inl (upd bf i0.toNatClampNeg 0))), (q4, .inr (2, [.ref q6, .int (nI (f_ln (hf i1.toNatClampNeg) (hf i2.toNatClampNeg))), .int (f_la (hf i1.toNatClampNeg) (hf i2.toNatClampNeg)), .int 1])), (q6, .inl (cI, 7, .inl (f_row sr (hf i1.toNatClampNeg) (hf i2.toNatClampNeg) (f_ln (hf i1.toNatClampNeg) (hf i2.toNatClampNeg)))))] := hD
  have hw_7 : r_7 = f_bt (f_gd (hf i1.toNatClampNeg) (hf i2.toNatClampNeg)) 0 := hw_7
  subst hw_7
  refine va_last hx hb hK hP hD hS 0 2 rfl rfl (vp_in_iff.mpr (by decide)) dL_measure_10 (fun H locs hP hD hS => ?_)
  have hP : va_P D vwCl [(qL, .inl (cL, 1, .inr (.inl (vp_updL lf (0 : Int32).toNatClampNeg (f_bt (f_gd (hf i1.toNatClampNeg) (hf i2.toNatClampNeg)) 0))))), (o, .inr (3, [.ref q1, .ref q2, .ref q3, .ref q4])), (q1, .inl (cI, 12, .inl (upd hf i0.toNatClampNeg (f_gd (hf i1.toNatClampNeg) (hf i2.toNatClampNeg))))), (q2, .inl (cZ, 12, .inl (upd bf i0.toNatClampNeg 0))), (q4, .inr (2, [.ref q6, .int (nI (f_ln (hf i1.toNatClampNeg) (hf i2.toNatClampNeg))), .int (f_la (hf i1.toNatClampNeg) (hf i2.toNatClampNeg)), .int 1])), (q6, .inl (cI, 7, .inl (f_row sr (hf i1.toNatClampNeg) (hf i2.toNatClampNeg) (f_ln (hf i1.toNatClampNeg) (hf i2.toNatClampNeg)))))] H := hP
  have hD : va_D A [(qL, .inl (cL, 1, .inr (.inl (vp_updL lf (0 : Int32).toNatClampNeg (f_bt (f_gd (hf i1.toNatClampNeg) (hf i2.toNatClampNeg)) 0))))), (o, .inr (3, [.ref q1, .ref q2, .ref q3, .ref q4])), (q1, .inl (cI, 12, .inl (upd hf i0.toNatClampNeg (f_gd (hf i1.toNatClampNeg) (hf i2.toNatClampNeg))))), (q2, .inl (cZ, 12, .inl (upd bf i0.toNatClampNeg 0))), (q4, .inr (2, [.ref q6, .int (nI (f_ln (hf i1.toNatClampNeg) (hf i2.toNatClampNeg))), .int (f_la (hf i1.toNatClampNeg) (hf i2.toNatClampNeg)), .int 1])), (q6, .inl (cI, 7, .inl (f_row sr (hf i1.toNatClampNeg) (hf i2.toNatClampNeg) (f_ln (hf i1.toNatClampNeg) (hf i2.toNatClampNeg)))))] := hD
  refine lv_goto (tgt := 18) hx hb dL_measure_11 (by decide) ?_
  refine lv_iconst (v := 0) hx hb dL_measure_18 (by decide) ?_
  have hP9 := hP.sub (ws' := [(o, .inr (3, [.ref q1, .ref q2, .ref q3, .ref q4])), (q1, .inl (cI, 12, .inl (upd hf i0.toNatClampNeg (f_gd (hf i1.toNatClampNeg) (hf i2.toNatClampNeg))))), (q2, .inl (cZ, 12, .inl (upd bf i0.toNatClampNeg 0))), (q4, .inr (2, [.ref q6, .int (nI (f_ln (hf i1.toNatClampNeg) (hf i2.toNatClampNeg))), .int (f_la (hf i1.toNatClampNeg) (hf i2.toNatClampNeg)), .int 1])), (q6, .inl (cI, 7, .inl (f_row sr (hf i1.toNatClampNeg) (hf i2.toNatClampNeg) (f_ln (hf i1.toNatClampNeg) (hf i2.toNatClampNeg))))), (qL, .inl (cL, 1, .inr (.inl (vp_updL lf (0 : Int32).toNatClampNeg (f_bt (f_gd (hf i1.toNatClampNeg) (hf i2.toNatClampNeg)) 0)))))]) [1, 2, 3, 4, 5, 0] rfl
  have hD9 := hD.sub (ws' := [(o, .inr (3, [.ref q1, .ref q2, .ref q3, .ref q4])), (q1, .inl (cI, 12, .inl (upd hf i0.toNatClampNeg (f_gd (hf i1.toNatClampNeg) (hf i2.toNatClampNeg))))), (q2, .inl (cZ, 12, .inl (upd bf i0.toNatClampNeg 0))), (q4, .inr (2, [.ref q6, .int (nI (f_ln (hf i1.toNatClampNeg) (hf i2.toNatClampNeg))), .int (f_la (hf i1.toNatClampNeg) (hf i2.toNatClampNeg)), .int 1])), (q6, .inl (cI, 7, .inl (f_row sr (hf i1.toNatClampNeg) (hf i2.toNatClampNeg) (f_ln (hf i1.toNatClampNeg) (hf i2.toNatClampNeg))))), (qL, .inl (cL, 1, .inr (.inl (vp_updL lf (0 : Int32).toNatClampNeg (f_bt (f_gd (hf i1.toNatClampNeg) (hf i2.toNatClampNeg)) 0)))))]) [1, 2, 3, 4, 5, 0] (by decide) rfl
  exact W.iret (v := 0) hx hb hr (fun t ht hW => ⟨⟨0, (), rfl, (rfl), by rw [ht]; exact hP9, va_K.moved hW.alike hK, hD9⟩, hS.F ht⟩) hS.2.2 dL_measure_19
set_option maxHeartbeats 4000000 in
set_option maxRecDepth 100000 in
theorem c_L_measure_noP (l : Launch) (D : va_G) (cI : ClassId) (cZ : ClassId) (o : Nat) (q1 : Nat) (q2 : Nat) (q3 : Nat) (q4 : Nat) (sz : Nat) (hf : Nat → Int32) (bf : Nat → Int32) (i0 : Int32) (i1 : Int32) (i2 : Int32) (cL : ClassId) (qL : Nat) (lf : Nat → Int64) (gl : l.stackTraces = false) (gb : ¬ vp_in i0 12 ∨ (¬ vp_in i1 12 ∨ ¬ vp_in i2 12)) : Met l yL_measure wsL_measure ({ frames := 8, cells := 1, slots := 6, locals := 133 }) (va_Pc [.ref o, .int i0, .int i1, .int i2, .ref qL] (ny_pre D [(cI, .int), (cZ, .boolean), (cL, .long)] [(o, .inr (3, [.ref q1, .ref q2, .ref q3, .ref q4])), (q1, .inl (cI, 12, .inl hf)), (q2, .inl (cZ, 12, .inl bf)), (qL, .inl (cL, 1, .inr (.inl lf)))] sz)) (va_Qi (fun (r : Int32) (u : Unit) => r = 1) (fun (u : Unit) t => ny_at D [(cI, .int), (cZ, .boolean), (cL, .long)] (va_A [(o, .inr (3, [.ref q1, .ref q2, .ref q3, .ref q4])), (q1, .inl (cI, 12, .inl hf)), (q2, .inl (cZ, 12, .inl bf)), (qL, .inl (cL, 1, .inr (.inl lf)))] sz) [(o, .inr (3, [.ref q1, .ref q2, .ref q3, .ref q4])), (q1, .inl (cI, 12, .inl hf)), (q2, .inl (cZ, 12, .inl bf)), (qL, .inl (cL, 1, .inr (.inl lf)))] t) (va_A [(o, .inr (3, [.ref q1, .ref q2, .ref q3, .ref q4])), (q1, .inl (cI, 12, .inl hf)), (q2, .inl (cZ, 12, .inl bf)), (qL, .inl (cL, 1, .inr (.inl lf)))] sz)) 1 6 (va_A [(o, .inr (3, [.ref q1, .ref q2, .ref q3, .ref q4])), (q1, .inl (cI, 12, .inl hf)), (q2, .inl (cZ, 12, .inl bf)), (qL, .inl (cL, 1, .inr (.inl lf)))] sz) := by
  refine va_MetW (cc := cL_measure) (maxL := 6) (ret := (some .int)) (by decide) rfl ?_
  intro p e s m args below meth c s₁ B hml hv
  obtain ⟨rfl, hsz, hP, hK, hD0, hE⟩ := hv
  have hx := B.exec
  have hb := B.bytes
  have hr := B.returns
  have hts := atoms_spec (ws := wsL_measure) B.pre
  have hown : s.vm.findClass RL = some m.cls := findClass_of_methodNamed B.named
  have hlocks := B.notSynchronized
  have htab := vx_table (x := yL_measure) B (hts _ List.mem_cons_self)
  subst hsz
  have hD := hD0.self (sz := s.heap.size)
  generalize hAe : va_A [(o, .inr (3, [.ref q1, .ref q2, .ref q3, .ref q4])), (q1, .inl (cI, 12, .inl hf)), (q2, .inl (cZ, 12, .inl bf)), (qL, .inl (cL, 1, .inr (.inl lf)))] s.heap.size = A at hD hE ⊢
  have hA : ∀ q : Nat, s.heap.size ≤ q → A q := fun q h => by rw [← hAe]; exact Or.inr h
  have hS : va_S A s.heap s.heap [] := va_S.rf
  have hl := lv_entry ([.ref o, .int i0, .int i1, .int i2, .ref qL]) (n := 6) (Nat.le_of_ble_eq_true rfl)
  rw [lg_entry_eq]
  generalize (lg_sl ([.ref o, .int i0, .int i1, .int i2, .ref qL]) ++ List.replicate (6 - (lg_sl ([.ref o, .int i0, .int i1, .int i2, .ref qL])).length) Slot.unset).toArray = ls at hl ⊢
  have hl : lv_has ls 6 [(0, .ref o), (1, .int i0), (2, .int i1), (3, .int i2), (4, .ref qL)] := hl
  refine lv_aload hx hb dL_measure_0 (lv_at hl 4 rfl) ?_
  refine lv_iconst (v := 0) hx hb dL_measure_2 (by decide) ?_
  refine lv_aload_n hx hb dL_measure_3 rfl (lv_at hl 0 rfl) ?_
  refine lv_iload_n hx hb dL_measure_4 rfl (lv_at hl 1 rfl) ?_
  refine lv_iload_n hx hb dL_measure_5 rfl (lv_at hl 2 rfl) ?_
  refine lv_iload_n hx hb dL_measure_6 rfl (lv_at hl 3 rfl) ?_
  refine ny_x hS (va_free (wc := [(o, .inr (3, [.ref q1, .ref q2, .ref q3, .ref q4])), (q1, .inl (cI, 12, .inl hf)), (q2, .inl (cZ, 12, .inl bf))]) hD hS hA [0, 1, 2] rfl) (vx_runV (As := [.int i0, .int i1, .int i2]) (rest := [.int 0, .ref qL]) ⟨hx, hb, hml, hown, hts⟩ (c_X1_measure_noP l D cI cZ o q1 q2 q3 q4 s.heap.size hf bf i0 i1 i2 (by assumption) (by assumption)) (cwV 3 hts gL_measure_X1_measure rfl rfl rfl (by decide +kernel) ⟨Nat.le_of_ble_eq_true rfl, Nat.le_of_ble_eq_true rfl⟩) ⟨ny_blind, va_recv hK hP (ci := 3) (q0 := 0) rfl rfl, fun U hU hW => ⟨rfl, ny_preU hE hP hK hD hS hA [0, 1, 2] rfl (by decide) rfl [0, 1] rfl U hU hW⟩⟩ rfl rfl hl.1 rfl (lv_room (Nat.le_of_ble_eq_true rfl)) dL_measure_7 ⟨Nat.le_of_ble_eq_true rfl, Nat.le_of_ble_eq_true rfl⟩) (fun ce q9 H locs hz9 hk9 hS hc9 hv9 hn9 => ?_)
  have hP : va_P D vwCl [(o, .inr (3, [.ref q1, .ref q2, .ref q3, .ref q4])), (q1, .inl (cI, 12, .inl hf)), (q2, .inl (cZ, 12, .inl bf)), (qL, .inl (cL, 1, .inr (.inl lf)))] H := ny_keep hP hk9
  refine vx_catch (own := RL) (name := ny_IO) (E := ny_IO) hown (tableOf []) ⟨0, 11, 14, 13⟩ (tableOf []) (htab.trans rfl) (fun z hz => absurd hz List.not_mem_nil) (by decide) (by decide) (hts (.classLink RL 13 "java/lang/IndexOutOfBoundsException") (List.mem_of_getElem? (i := 1) rfl)) (va_Nw.use rfl (hE.2.2.2.2.1 _ (List.mem_of_getElem? (i := 0) rfl))) hc9 hv9 hn9 ?_
  refine W.eq (g2 := F0 m 14 ls [.ref q9]) rfl ?_
  refine lv_astore (lv' := [(5, .ref q9), (0, .ref o), (1, .int i0), (2, .int i1), (3, .int i2), (4, .ref qL)]) hx hb dL_measure_14 hl (by decide) rfl (fun ls hl => ?_)
  refine lv_iconst (v := 1) hx hb dL_measure_16 (by decide) ?_
  have hP9 := hP.sub (ws' := [(o, .inr (3, [.ref q1, .ref q2, .ref q3, .ref q4])), (q1, .inl (cI, 12, .inl hf)), (q2, .inl (cZ, 12, .inl bf)), (qL, .inl (cL, 1, .inr (.inl lf)))]) [0, 1, 2, 3] rfl
  have hD9 := hD.sub (ws' := [(o, .inr (3, [.ref q1, .ref q2, .ref q3, .ref q4])), (q1, .inl (cI, 12, .inl hf)), (q2, .inl (cZ, 12, .inl bf)), (qL, .inl (cL, 1, .inr (.inl lf)))]) [0, 1, 2, 3] (by decide) rfl
  refine W.widen (k := 1) (n := 6) (Nat.le_of_ble_eq_true rfl) (Nat.le_of_ble_eq_true rfl) ?_
  exact W.iret (v := 1) hx hb hr (fun t ht hW => ⟨⟨1, (), rfl, (rfl), by rw [ht]; exact hP9, va_K.moved hW.alike hK, hD9⟩, hS.F ht⟩) hS.2.2 dL_measure_17
set_option maxHeartbeats 4000000 in
set_option maxRecDepth 100000 in
theorem c_L_steps (l : Launch) (D : va_G) (cI : ClassId) (cZ : ClassId) (o : Nat) (q1 : Nat) (q2 : Nat) (q3 : Nat) (q4 : Nat) (sz : Nat) (hf : Nat → Int32) (bf : Nat → Int32) (q6 : Nat) (sr : Nat → Int32) (sc : Int32) (sl : Int32) (se : Int32) (i0 : Int32) (i1 : Int32) (cL : ClassId) (qL : Nat) (lf : Nat → Int64) (gp0 : vp_in i0 12) (gp1 : vp_in i1 12) (gH : ny_H hf) : Met l yL_steps wsL_steps ({ frames := 4, cells := 0, slots := 0, locals := 95 }) (va_Pc [.ref o, .int i0, .int i1, .ref qL] (ny_pre D [(cI, .int), (cZ, .boolean), (cL, .long)] [(o, .inr (3, [.ref q1, .ref q2, .ref q3, .ref q4])), (q1, .inl (cI, 12, .inl hf)), (q2, .inl (cZ, 12, .inl bf)), (q4, .inr (2, [.ref q6, .int sc, .int sl, .int se])), (q6, .inl (cI, 7, .inl sr)), (qL, .inl (cL, 1, .inr (.inl lf)))] sz)) (va_Qi (fun (r : Int32) (u : Unit) => r = 0) (fun (u : Unit) t => ny_at D [(cI, .int), (cZ, .boolean), (cL, .long)] (va_A [(o, .inr (3, [.ref q1, .ref q2, .ref q3, .ref q4])), (q1, .inl (cI, 12, .inl hf)), (q2, .inl (cZ, 12, .inl bf)), (q4, .inr (2, [.ref q6, .int sc, .int sl, .int se])), (q6, .inl (cI, 7, .inl sr)), (qL, .inl (cL, 1, .inr (.inl lf)))] sz) [(o, .inr (3, [.ref q1, .ref q2, .ref q3, .ref q4])), (q1, .inl (cI, 12, .inl hf)), (q2, .inl (cZ, 12, .inl bf)), (q4, .inr (2, [.ref q6, .int (nI (f_ln (hf i0.toNatClampNeg) (hf i1.toNatClampNeg))), .int (f_la (hf i0.toNatClampNeg) (hf i1.toNatClampNeg)), .int 1])), (q6, .inl (cI, 7, .inl (f_row sr (hf i0.toNatClampNeg) (hf i1.toNatClampNeg) (f_ln (hf i0.toNatClampNeg) (hf i1.toNatClampNeg))))), (qL, .inl (cL, 1, .inr (.inl (vp_updL lf (0 : Int32).toNatClampNeg ((nI (f_ln (hf i0.toNatClampNeg) (hf i1.toNatClampNeg))).toInt64)))))] t) (va_A [(o, .inr (3, [.ref q1, .ref q2, .ref q3, .ref q4])), (q1, .inl (cI, 12, .inl hf)), (q2, .inl (cZ, 12, .inl bf)), (q4, .inr (2, [.ref q6, .int sc, .int sl, .int se])), (q6, .inl (cI, 7, .inl sr)), (qL, .inl (cL, 1, .inr (.inl lf)))] sz)) 0 0 (va_A [(o, .inr (3, [.ref q1, .ref q2, .ref q3, .ref q4])), (q1, .inl (cI, 12, .inl hf)), (q2, .inl (cZ, 12, .inl bf)), (q4, .inr (2, [.ref q6, .int sc, .int sl, .int se])), (q6, .inl (cI, 7, .inl sr)), (qL, .inl (cL, 1, .inr (.inl lf)))] sz) := by
  refine va_MetW (cc := cL_steps) (maxL := 5) (ret := (some .int)) (by decide) rfl ?_
  intro p e s m args below meth c s₁ B hml hv
  obtain ⟨rfl, hsz, hP, hK, hD0, hE⟩ := hv
  have hx := B.exec
  have hb := B.bytes
  have hr := B.returns
  have hts := atoms_spec (ws := wsL_steps) B.pre
  have hown : s.vm.findClass RL = some m.cls := findClass_of_methodNamed B.named
  have hlocks := B.notSynchronized
  have htab := vx_table (x := yL_steps) B (hts _ List.mem_cons_self)
  subst hsz
  have hD := hD0.self (sz := s.heap.size)
  generalize hAe : va_A [(o, .inr (3, [.ref q1, .ref q2, .ref q3, .ref q4])), (q1, .inl (cI, 12, .inl hf)), (q2, .inl (cZ, 12, .inl bf)), (q4, .inr (2, [.ref q6, .int sc, .int sl, .int se])), (q6, .inl (cI, 7, .inl sr)), (qL, .inl (cL, 1, .inr (.inl lf)))] s.heap.size = A at hD hE ⊢
  have hA : ∀ q : Nat, s.heap.size ≤ q → A q := fun q h => by rw [← hAe]; exact Or.inr h
  have hS : va_S A s.heap s.heap [] := va_S.rf
  have hl := lv_entry ([.ref o, .int i0, .int i1, .ref qL]) (n := 5) (Nat.le_of_ble_eq_true rfl)
  rw [lg_entry_eq]
  generalize (lg_sl ([.ref o, .int i0, .int i1, .ref qL]) ++ List.replicate (5 - (lg_sl ([.ref o, .int i0, .int i1, .ref qL])).length) Slot.unset).toArray = ls at hl ⊢
  have hl : lv_has ls 5 [(0, .ref o), (1, .int i0), (2, .int i1), (3, .ref qL)] := hl
  refine lv_aload_n hx hb dL_steps_0 rfl (lv_at hl 3 rfl) ?_
  refine lv_iconst (v := 0) hx hb dL_steps_1 (by decide) ?_
  refine lv_aload_n hx hb dL_steps_2 rfl (lv_at hl 0 rfl) ?_
  refine lv_iload_n hx hb dL_steps_3 rfl (lv_at hl 1 rfl) ?_
  refine lv_iload_n hx hb dL_steps_4 rfl (lv_at hl 2 rfl) ?_
  refine ny_i (wc := [(o, .inr (3, [.ref q1, .ref q2, .ref q3, .ref q4])), (q1, .inl (cI, 12, .inl hf)), (q2, .inl (cZ, 12, .inl bf)), (q4, .inr (2, [.ref q6, .int sc, .int sl, .int se])), (q6, .inl (cI, 7, .inl sr))]) (wr := [(qL, .inl (cL, 1, .inr (.inl lf)))]) hP hD hS hA [0, 1, 2, 3, 4] [5] rfl rfl (by decide) (by decide) (va_runV (As := [.int i0, .int i1]) (rest := [.int 0, .ref qL]) ⟨hx, hb, hml, hown, hts⟩ (c_X1_steps l D cI cZ o q1 q2 q3 q4 s.heap.size hf bf q6 sr sc sl se i0 i1 (by assumption) (by assumption) (by assumption)) (cwV 2 hts gL_steps_X1_steps rfl rfl rfl (by decide +kernel) ⟨Nat.le_of_ble_eq_true rfl, Nat.le_of_ble_eq_true rfl⟩) ⟨ny_blind, va_recv hK hP (ci := 3) (q0 := 0) rfl rfl, fun U hU hW => ⟨rfl, ny_preU hE hP hK hD hS hA [0, 1, 2, 3, 4] rfl (by decide) rfl [0, 1] rfl U hU hW⟩⟩ rfl rfl hl.1 rfl (lv_room (Nat.le_of_ble_eq_true rfl)) dL_steps_5 ⟨Nat.le_of_ble_eq_true rfl, Nat.le_of_ble_eq_true rfl⟩) (fun r_5 u H locs hw_5 hP hD hS => ?_)
  have hP : va_P D vwCl [(qL, .inl (cL, 1, .inr (.inl lf))), (o, .inr (3, [.ref q1, .ref q2, .ref q3, .ref q4])), (q1, .inl (cI, 12, .inl hf)), (q2, .inl (cZ, 12, .inl bf)), (q4, .inr (2, [.ref q6, .int (nI (f_ln (hf i0.toNatClampNeg) (hf i1.toNatClampNeg))), .int (f_la (hf i0.toNatClampNeg) (hf i1.toNatClampNeg)), .int 1])), (q6, .inl (cI, 7, .inl (f_row sr (hf i0.toNatClampNeg) (hf i1.toNatClampNeg) (f_ln (hf i0.toNatClampNeg) (hf i1.toNatClampNeg)))))] H := hP
  have hD : va_D A [(qL, .inl (cL, 1, .inr (.inl lf))), (o, .inr (3, [.ref q1, .ref q2, .ref q3, .ref q4])), (q1, .inl (cI, 12, .inl hf)), (q2, .inl (cZ, 12, .inl bf)), (q4, .inr (2, [.ref q6, .int (nI (f_ln (hf i0.toNatClampNeg) (hf i1.toNatClampNeg))), .int (f_la (hf i0.toNatClampNeg) (hf i1.toNatClampNeg)), .int 1])), (q6, .inl (cI, 7, .inl (f_row sr (hf i0.toNatClampNeg) (hf i1.toNatClampNeg) (f_ln (hf i0.toNatClampNeg) (hf i1.toNatClampNeg)))))] := hD
  have hw_5 : r_5 = nI (f_ln (hf i0.toNatClampNeg) (hf i1.toNatClampNeg)) := hw_5
  subst hw_5
  refine lv_i2l hx hb dL_steps_8 rfl ?_
  refine va_last hx hb hK hP hD hS 0 2 rfl rfl (vp_in_iff.mpr (by decide)) dL_steps_9 (fun H locs hP hD hS => ?_)
  have hP : va_P D vwCl [(qL, .inl (cL, 1, .inr (.inl (vp_updL lf (0 : Int32).toNatClampNeg ((nI (f_ln (hf i0.toNatClampNeg) (hf i1.toNatClampNeg))).toInt64))))), (o, .inr (3, [.ref q1, .ref q2, .ref q3, .ref q4])), (q1, .inl (cI, 12, .inl hf)), (q2, .inl (cZ, 12, .inl bf)), (q4, .inr (2, [.ref q6, .int (nI (f_ln (hf i0.toNatClampNeg) (hf i1.toNatClampNeg))), .int (f_la (hf i0.toNatClampNeg) (hf i1.toNatClampNeg)), .int 1])), (q6, .inl (cI, 7, .inl (f_row sr (hf i0.toNatClampNeg) (hf i1.toNatClampNeg) (f_ln (hf i0.toNatClampNeg) (hf i1.toNatClampNeg)))))] H := hP
  have hD : va_D A [(qL, .inl (cL, 1, .inr (.inl (vp_updL lf (0 : Int32).toNatClampNeg ((nI (f_ln (hf i0.toNatClampNeg) (hf i1.toNatClampNeg))).toInt64))))), (o, .inr (3, [.ref q1, .ref q2, .ref q3, .ref q4])), (q1, .inl (cI, 12, .inl hf)), (q2, .inl (cZ, 12, .inl bf)), (q4, .inr (2, [.ref q6, .int (nI (f_ln (hf i0.toNatClampNeg) (hf i1.toNatClampNeg))), .int (f_la (hf i0.toNatClampNeg) (hf i1.toNatClampNeg)), .int 1])), (q6, .inl (cI, 7, .inl (f_row sr (hf i0.toNatClampNeg) (hf i1.toNatClampNeg) (f_ln (hf i0.toNatClampNeg) (hf i1.toNatClampNeg)))))] := hD
  refine lv_goto (tgt := 17) hx hb dL_steps_10 (by decide) ?_
  refine lv_iconst (v := 0) hx hb dL_steps_17 (by decide) ?_
  have hP9 := hP.sub (ws' := [(o, .inr (3, [.ref q1, .ref q2, .ref q3, .ref q4])), (q1, .inl (cI, 12, .inl hf)), (q2, .inl (cZ, 12, .inl bf)), (q4, .inr (2, [.ref q6, .int (nI (f_ln (hf i0.toNatClampNeg) (hf i1.toNatClampNeg))), .int (f_la (hf i0.toNatClampNeg) (hf i1.toNatClampNeg)), .int 1])), (q6, .inl (cI, 7, .inl (f_row sr (hf i0.toNatClampNeg) (hf i1.toNatClampNeg) (f_ln (hf i0.toNatClampNeg) (hf i1.toNatClampNeg))))), (qL, .inl (cL, 1, .inr (.inl (vp_updL lf (0 : Int32).toNatClampNeg ((nI (f_ln (hf i0.toNatClampNeg) (hf i1.toNatClampNeg))).toInt64)))))]) [1, 2, 3, 4, 5, 0] rfl
  have hD9 := hD.sub (ws' := [(o, .inr (3, [.ref q1, .ref q2, .ref q3, .ref q4])), (q1, .inl (cI, 12, .inl hf)), (q2, .inl (cZ, 12, .inl bf)), (q4, .inr (2, [.ref q6, .int (nI (f_ln (hf i0.toNatClampNeg) (hf i1.toNatClampNeg))), .int (f_la (hf i0.toNatClampNeg) (hf i1.toNatClampNeg)), .int 1])), (q6, .inl (cI, 7, .inl (f_row sr (hf i0.toNatClampNeg) (hf i1.toNatClampNeg) (f_ln (hf i0.toNatClampNeg) (hf i1.toNatClampNeg))))), (qL, .inl (cL, 1, .inr (.inl (vp_updL lf (0 : Int32).toNatClampNeg ((nI (f_ln (hf i0.toNatClampNeg) (hf i1.toNatClampNeg))).toInt64)))))]) [1, 2, 3, 4, 5, 0] (by decide) rfl
  exact W.iret (v := 0) hx hb hr (fun t ht hW => ⟨⟨0, (), rfl, (rfl), by rw [ht]; exact hP9, va_K.moved hW.alike hK, hD9⟩, hS.F ht⟩) hS.2.2 dL_steps_18
set_option maxHeartbeats 4000000 in
set_option maxRecDepth 100000 in
theorem c_L_steps_noP (l : Launch) (D : va_G) (cI : ClassId) (cZ : ClassId) (o : Nat) (q1 : Nat) (q2 : Nat) (q3 : Nat) (q4 : Nat) (sz : Nat) (hf : Nat → Int32) (bf : Nat → Int32) (i0 : Int32) (i1 : Int32) (cL : ClassId) (qL : Nat) (lf : Nat → Int64) (gl : l.stackTraces = false) (gb : ¬ vp_in i0 12 ∨ ¬ vp_in i1 12) : Met l yL_steps wsL_steps ({ frames := 8, cells := 1, slots := 6, locals := 132 }) (va_Pc [.ref o, .int i0, .int i1, .ref qL] (ny_pre D [(cI, .int), (cZ, .boolean), (cL, .long)] [(o, .inr (3, [.ref q1, .ref q2, .ref q3, .ref q4])), (q1, .inl (cI, 12, .inl hf)), (q2, .inl (cZ, 12, .inl bf)), (qL, .inl (cL, 1, .inr (.inl lf)))] sz)) (va_Qi (fun (r : Int32) (u : Unit) => r = 1) (fun (u : Unit) t => ny_at D [(cI, .int), (cZ, .boolean), (cL, .long)] (va_A [(o, .inr (3, [.ref q1, .ref q2, .ref q3, .ref q4])), (q1, .inl (cI, 12, .inl hf)), (q2, .inl (cZ, 12, .inl bf)), (qL, .inl (cL, 1, .inr (.inl lf)))] sz) [(o, .inr (3, [.ref q1, .ref q2, .ref q3, .ref q4])), (q1, .inl (cI, 12, .inl hf)), (q2, .inl (cZ, 12, .inl bf)), (qL, .inl (cL, 1, .inr (.inl lf)))] t) (va_A [(o, .inr (3, [.ref q1, .ref q2, .ref q3, .ref q4])), (q1, .inl (cI, 12, .inl hf)), (q2, .inl (cZ, 12, .inl bf)), (qL, .inl (cL, 1, .inr (.inl lf)))] sz)) 1 6 (va_A [(o, .inr (3, [.ref q1, .ref q2, .ref q3, .ref q4])), (q1, .inl (cI, 12, .inl hf)), (q2, .inl (cZ, 12, .inl bf)), (qL, .inl (cL, 1, .inr (.inl lf)))] sz) := by
  refine va_MetW (cc := cL_steps) (maxL := 5) (ret := (some .int)) (by decide) rfl ?_
  intro p e s m args below meth c s₁ B hml hv
  obtain ⟨rfl, hsz, hP, hK, hD0, hE⟩ := hv
  have hx := B.exec
  have hb := B.bytes
  have hr := B.returns
  have hts := atoms_spec (ws := wsL_steps) B.pre
  have hown : s.vm.findClass RL = some m.cls := findClass_of_methodNamed B.named
  have hlocks := B.notSynchronized
  have htab := vx_table (x := yL_steps) B (hts _ List.mem_cons_self)
  subst hsz
  have hD := hD0.self (sz := s.heap.size)
  generalize hAe : va_A [(o, .inr (3, [.ref q1, .ref q2, .ref q3, .ref q4])), (q1, .inl (cI, 12, .inl hf)), (q2, .inl (cZ, 12, .inl bf)), (qL, .inl (cL, 1, .inr (.inl lf)))] s.heap.size = A at hD hE ⊢
  have hA : ∀ q : Nat, s.heap.size ≤ q → A q := fun q h => by rw [← hAe]; exact Or.inr h
  have hS : va_S A s.heap s.heap [] := va_S.rf
  have hl := lv_entry ([.ref o, .int i0, .int i1, .ref qL]) (n := 5) (Nat.le_of_ble_eq_true rfl)
  rw [lg_entry_eq]
  generalize (lg_sl ([.ref o, .int i0, .int i1, .ref qL]) ++ List.replicate (5 - (lg_sl ([.ref o, .int i0, .int i1, .ref qL])).length) Slot.unset).toArray = ls at hl ⊢
  have hl : lv_has ls 5 [(0, .ref o), (1, .int i0), (2, .int i1), (3, .ref qL)] := hl
  refine lv_aload_n hx hb dL_steps_0 rfl (lv_at hl 3 rfl) ?_
  refine lv_iconst (v := 0) hx hb dL_steps_1 (by decide) ?_
  refine lv_aload_n hx hb dL_steps_2 rfl (lv_at hl 0 rfl) ?_
  refine lv_iload_n hx hb dL_steps_3 rfl (lv_at hl 1 rfl) ?_
  refine lv_iload_n hx hb dL_steps_4 rfl (lv_at hl 2 rfl) ?_
  refine ny_x hS (va_free (wc := [(o, .inr (3, [.ref q1, .ref q2, .ref q3, .ref q4])), (q1, .inl (cI, 12, .inl hf)), (q2, .inl (cZ, 12, .inl bf))]) hD hS hA [0, 1, 2] rfl) (vx_runV (As := [.int i0, .int i1]) (rest := [.int 0, .ref qL]) ⟨hx, hb, hml, hown, hts⟩ (c_X1_steps_noP l D cI cZ o q1 q2 q3 q4 s.heap.size hf bf i0 i1 (by assumption) (by assumption)) (cwV 2 hts gL_steps_X1_steps rfl rfl rfl (by decide +kernel) ⟨Nat.le_of_ble_eq_true rfl, Nat.le_of_ble_eq_true rfl⟩) ⟨ny_blind, va_recv hK hP (ci := 3) (q0 := 0) rfl rfl, fun U hU hW => ⟨rfl, ny_preU hE hP hK hD hS hA [0, 1, 2] rfl (by decide) rfl [0, 1] rfl U hU hW⟩⟩ rfl rfl hl.1 rfl (lv_room (Nat.le_of_ble_eq_true rfl)) dL_steps_5 ⟨Nat.le_of_ble_eq_true rfl, Nat.le_of_ble_eq_true rfl⟩) (fun ce q9 H locs hz9 hk9 hS hc9 hv9 hn9 => ?_)
  have hP : va_P D vwCl [(o, .inr (3, [.ref q1, .ref q2, .ref q3, .ref q4])), (q1, .inl (cI, 12, .inl hf)), (q2, .inl (cZ, 12, .inl bf)), (qL, .inl (cL, 1, .inr (.inl lf)))] H := ny_keep hP hk9
  refine vx_catch (own := RL) (name := ny_IO) (E := ny_IO) hown (tableOf []) ⟨0, 10, 13, 13⟩ (tableOf []) (htab.trans rfl) (fun z hz => absurd hz List.not_mem_nil) (by decide) (by decide) (hts (.classLink RL 13 "java/lang/IndexOutOfBoundsException") (List.mem_of_getElem? (i := 1) rfl)) (va_Nw.use rfl (hE.2.2.2.2.1 _ (List.mem_of_getElem? (i := 0) rfl))) hc9 hv9 hn9 ?_
  refine W.eq (g2 := F0 m 13 ls [.ref q9]) rfl ?_
  refine lv_astore (lv' := [(4, .ref q9), (0, .ref o), (1, .int i0), (2, .int i1), (3, .ref qL)]) hx hb dL_steps_13 hl (by decide) rfl (fun ls hl => ?_)
  refine lv_iconst (v := 1) hx hb dL_steps_15 (by decide) ?_
  have hP9 := hP.sub (ws' := [(o, .inr (3, [.ref q1, .ref q2, .ref q3, .ref q4])), (q1, .inl (cI, 12, .inl hf)), (q2, .inl (cZ, 12, .inl bf)), (qL, .inl (cL, 1, .inr (.inl lf)))]) [0, 1, 2, 3] rfl
  have hD9 := hD.sub (ws' := [(o, .inr (3, [.ref q1, .ref q2, .ref q3, .ref q4])), (q1, .inl (cI, 12, .inl hf)), (q2, .inl (cZ, 12, .inl bf)), (qL, .inl (cL, 1, .inr (.inl lf)))]) [0, 1, 2, 3] (by decide) rfl
  refine W.widen (k := 1) (n := 6) (Nat.le_of_ble_eq_true rfl) (Nat.le_of_ble_eq_true rfl) ?_
  exact W.iret (v := 1) hx hb hr (fun t ht hW => ⟨⟨1, (), rfl, (rfl), by rw [ht]; exact hP9, va_K.moved hW.alike hK, hD9⟩, hS.F ht⟩) hS.2.2 dL_steps_16
set_option maxHeartbeats 4000000 in
set_option maxRecDepth 100000 in
theorem c_L_digits (l : Launch) (D : va_G) (cI : ClassId) (cZ : ClassId) (o : Nat) (q1 : Nat) (q2 : Nat) (q3 : Nat) (q4 : Nat) (sz : Nat) (hf : Nat → Int32) (bf : Nat → Int32) (q5 : Nat) (tr : Nat → Int32) (tc : Int32) (tl : Int32) (te : Int32) (i0 : Int32) (i1 : Int32) (cL : ClassId) (qL : Nat) (lf : Nat → Int64) (gp0 : vp_in i0 12) (gp1 : vp_in i1 12) (g0 : ¬ hf i1.toNatClampNeg = 0) (gH : ny_H hf) : Met l yL_digits wsL_digits ({ frames := 4, cells := 0, slots := 0, locals := 95 }) (va_Pc [.ref o, .int i0, .int i1, .ref qL] (ny_pre D [(cI, .int), (cZ, .boolean), (cL, .long)] [(o, .inr (3, [.ref q1, .ref q2, .ref q3, .ref q4])), (q1, .inl (cI, 12, .inl hf)), (q2, .inl (cZ, 12, .inl bf)), (q3, .inr (2, [.ref q5, .int tc, .int tl, .int te])), (q5, .inl (cI, 7, .inl tr)), (qL, .inl (cL, 1, .inr (.inl lf)))] sz)) (va_Qi (fun (r : Int32) (u : Unit) => r = 0) (fun (u : Unit) t => ny_at D [(cI, .int), (cZ, .boolean), (cL, .long)] (va_A [(o, .inr (3, [.ref q1, .ref q2, .ref q3, .ref q4])), (q1, .inl (cI, 12, .inl hf)), (q2, .inl (cZ, 12, .inl bf)), (q3, .inr (2, [.ref q5, .int tc, .int tl, .int te])), (q5, .inl (cI, 7, .inl tr)), (qL, .inl (cL, 1, .inr (.inl lf)))] sz) [(o, .inr (3, [.ref q1, .ref q2, .ref q3, .ref q4])), (q1, .inl (cI, 12, .inl hf)), (q2, .inl (cZ, 12, .inl bf)), (q3, .inr (2, [.ref q5, .int (nI (f_ln (hf i0.toNatClampNeg) (hf i1.toNatClampNeg))), .int (f_la (hf i0.toNatClampNeg) (hf i1.toNatClampNeg)), .int 1])), (q5, .inl (cI, 7, .inl (f_row tr (hf i0.toNatClampNeg) (hf i1.toNatClampNeg) (f_ln (hf i0.toNatClampNeg) (hf i1.toNatClampNeg))))), (qL, .inl (cL, 1, .inr (.inl (vp_updL lf (0 : Int32).toNatClampNeg ((nI (f_ln (hf i0.toNatClampNeg) (hf i1.toNatClampNeg))).toInt64)))))] t) (va_A [(o, .inr (3, [.ref q1, .ref q2, .ref q3, .ref q4])), (q1, .inl (cI, 12, .inl hf)), (q2, .inl (cZ, 12, .inl bf)), (q3, .inr (2, [.ref q5, .int tc, .int tl, .int te])), (q5, .inl (cI, 7, .inl tr)), (qL, .inl (cL, 1, .inr (.inl lf)))] sz)) 0 0 (va_A [(o, .inr (3, [.ref q1, .ref q2, .ref q3, .ref q4])), (q1, .inl (cI, 12, .inl hf)), (q2, .inl (cZ, 12, .inl bf)), (q3, .inr (2, [.ref q5, .int tc, .int tl, .int te])), (q5, .inl (cI, 7, .inl tr)), (qL, .inl (cL, 1, .inr (.inl lf)))] sz) := by
  refine va_MetW (cc := cL_digits) (maxL := 5) (ret := (some .int)) (by decide) rfl ?_
  intro p e s m args below meth c s₁ B hml hv
  obtain ⟨rfl, hsz, hP, hK, hD0, hE⟩ := hv
  have hx := B.exec
  have hb := B.bytes
  have hr := B.returns
  have hts := atoms_spec (ws := wsL_digits) B.pre
  have hown : s.vm.findClass RL = some m.cls := findClass_of_methodNamed B.named
  have hlocks := B.notSynchronized
  have htab := vx_table (x := yL_digits) B (hts _ List.mem_cons_self)
  subst hsz
  have hD := hD0.self (sz := s.heap.size)
  generalize hAe : va_A [(o, .inr (3, [.ref q1, .ref q2, .ref q3, .ref q4])), (q1, .inl (cI, 12, .inl hf)), (q2, .inl (cZ, 12, .inl bf)), (q3, .inr (2, [.ref q5, .int tc, .int tl, .int te])), (q5, .inl (cI, 7, .inl tr)), (qL, .inl (cL, 1, .inr (.inl lf)))] s.heap.size = A at hD hE ⊢
  have hA : ∀ q : Nat, s.heap.size ≤ q → A q := fun q h => by rw [← hAe]; exact Or.inr h
  have hS : va_S A s.heap s.heap [] := va_S.rf
  have hl := lv_entry ([.ref o, .int i0, .int i1, .ref qL]) (n := 5) (Nat.le_of_ble_eq_true rfl)
  rw [lg_entry_eq]
  generalize (lg_sl ([.ref o, .int i0, .int i1, .ref qL]) ++ List.replicate (5 - (lg_sl ([.ref o, .int i0, .int i1, .ref qL])).length) Slot.unset).toArray = ls at hl ⊢
  have hl : lv_has ls 5 [(0, .ref o), (1, .int i0), (2, .int i1), (3, .ref qL)] := hl
  refine lv_aload_n hx hb dL_digits_0 rfl (lv_at hl 3 rfl) ?_
  refine lv_iconst (v := 0) hx hb dL_digits_1 (by decide) ?_
  refine lv_aload_n hx hb dL_digits_2 rfl (lv_at hl 0 rfl) ?_
  refine lv_iload_n hx hb dL_digits_3 rfl (lv_at hl 1 rfl) ?_
  refine lv_iload_n hx hb dL_digits_4 rfl (lv_at hl 2 rfl) ?_
  refine ny_i (wc := [(o, .inr (3, [.ref q1, .ref q2, .ref q3, .ref q4])), (q1, .inl (cI, 12, .inl hf)), (q2, .inl (cZ, 12, .inl bf)), (q3, .inr (2, [.ref q5, .int tc, .int tl, .int te])), (q5, .inl (cI, 7, .inl tr))]) (wr := [(qL, .inl (cL, 1, .inr (.inl lf)))]) hP hD hS hA [0, 1, 2, 3, 4] [5] rfl rfl (by decide) (by decide) (va_runV (As := [.int i0, .int i1]) (rest := [.int 0, .ref qL]) ⟨hx, hb, hml, hown, hts⟩ (c_X1_digits l D cI cZ o q1 q2 q3 q4 s.heap.size hf bf q5 tr tc tl te i0 i1 (by assumption) (by assumption) (by assumption) (by assumption)) (cwV 2 hts gL_digits_X1_digits rfl rfl rfl (by decide +kernel) ⟨Nat.le_of_ble_eq_true rfl, Nat.le_of_ble_eq_true rfl⟩) ⟨ny_blind, va_recv hK hP (ci := 3) (q0 := 0) rfl rfl, fun U hU hW => ⟨rfl, ny_preU hE hP hK hD hS hA [0, 1, 2, 3, 4] rfl (by decide) rfl [0, 1] rfl U hU hW⟩⟩ rfl rfl hl.1 rfl (lv_room (Nat.le_of_ble_eq_true rfl)) dL_digits_5 ⟨Nat.le_of_ble_eq_true rfl, Nat.le_of_ble_eq_true rfl⟩) (fun r_5 u H locs hw_5 hP hD hS => ?_)
  have hP : va_P D vwCl [(qL, .inl (cL, 1, .inr (.inl lf))), (o, .inr (3, [.ref q1, .ref q2, .ref q3, .ref q4])), (q1, .inl (cI, 12, .inl hf)), (q2, .inl (cZ, 12, .inl bf)), (q3, .inr (2, [.ref q5, .int (nI (f_ln (hf i0.toNatClampNeg) (hf i1.toNatClampNeg))), .int (f_la (hf i0.toNatClampNeg) (hf i1.toNatClampNeg)), .int 1])), (q5, .inl (cI, 7, .inl (f_row tr (hf i0.toNatClampNeg) (hf i1.toNatClampNeg) (f_ln (hf i0.toNatClampNeg) (hf i1.toNatClampNeg)))))] H := hP
  have hD : va_D A [(qL, .inl (cL, 1, .inr (.inl lf))), (o, .inr (3, [.ref q1, .ref q2, .ref q3, .ref q4])), (q1, .inl (cI, 12, .inl hf)), (q2, .inl (cZ, 12, .inl bf)), (q3, .inr (2, [.ref q5, .int (nI (f_ln (hf i0.toNatClampNeg) (hf i1.toNatClampNeg))), .int (f_la (hf i0.toNatClampNeg) (hf i1.toNatClampNeg)), .int 1])), (q5, .inl (cI, 7, .inl (f_row tr (hf i0.toNatClampNeg) (hf i1.toNatClampNeg) (f_ln (hf i0.toNatClampNeg) (hf i1.toNatClampNeg)))))] := hD
  have hw_5 : r_5 = nI (f_ln (hf i0.toNatClampNeg) (hf i1.toNatClampNeg)) := hw_5
  subst hw_5
  refine lv_i2l hx hb dL_digits_8 rfl ?_
  refine va_last hx hb hK hP hD hS 0 2 rfl rfl (vp_in_iff.mpr (by decide)) dL_digits_9 (fun H locs hP hD hS => ?_)
  have hP : va_P D vwCl [(qL, .inl (cL, 1, .inr (.inl (vp_updL lf (0 : Int32).toNatClampNeg ((nI (f_ln (hf i0.toNatClampNeg) (hf i1.toNatClampNeg))).toInt64))))), (o, .inr (3, [.ref q1, .ref q2, .ref q3, .ref q4])), (q1, .inl (cI, 12, .inl hf)), (q2, .inl (cZ, 12, .inl bf)), (q3, .inr (2, [.ref q5, .int (nI (f_ln (hf i0.toNatClampNeg) (hf i1.toNatClampNeg))), .int (f_la (hf i0.toNatClampNeg) (hf i1.toNatClampNeg)), .int 1])), (q5, .inl (cI, 7, .inl (f_row tr (hf i0.toNatClampNeg) (hf i1.toNatClampNeg) (f_ln (hf i0.toNatClampNeg) (hf i1.toNatClampNeg)))))] H := hP
  have hD : va_D A [(qL, .inl (cL, 1, .inr (.inl (vp_updL lf (0 : Int32).toNatClampNeg ((nI (f_ln (hf i0.toNatClampNeg) (hf i1.toNatClampNeg))).toInt64))))), (o, .inr (3, [.ref q1, .ref q2, .ref q3, .ref q4])), (q1, .inl (cI, 12, .inl hf)), (q2, .inl (cZ, 12, .inl bf)), (q3, .inr (2, [.ref q5, .int (nI (f_ln (hf i0.toNatClampNeg) (hf i1.toNatClampNeg))), .int (f_la (hf i0.toNatClampNeg) (hf i1.toNatClampNeg)), .int 1])), (q5, .inl (cI, 7, .inl (f_row tr (hf i0.toNatClampNeg) (hf i1.toNatClampNeg) (f_ln (hf i0.toNatClampNeg) (hf i1.toNatClampNeg)))))] := hD
  refine lv_goto (tgt := 21) hx hb dL_digits_10 (by decide) ?_
  refine lv_iconst (v := 0) hx hb dL_digits_21 (by decide) ?_
  have hP9 := hP.sub (ws' := [(o, .inr (3, [.ref q1, .ref q2, .ref q3, .ref q4])), (q1, .inl (cI, 12, .inl hf)), (q2, .inl (cZ, 12, .inl bf)), (q3, .inr (2, [.ref q5, .int (nI (f_ln (hf i0.toNatClampNeg) (hf i1.toNatClampNeg))), .int (f_la (hf i0.toNatClampNeg) (hf i1.toNatClampNeg)), .int 1])), (q5, .inl (cI, 7, .inl (f_row tr (hf i0.toNatClampNeg) (hf i1.toNatClampNeg) (f_ln (hf i0.toNatClampNeg) (hf i1.toNatClampNeg))))), (qL, .inl (cL, 1, .inr (.inl (vp_updL lf (0 : Int32).toNatClampNeg ((nI (f_ln (hf i0.toNatClampNeg) (hf i1.toNatClampNeg))).toInt64)))))]) [1, 2, 3, 4, 5, 0] rfl
  have hD9 := hD.sub (ws' := [(o, .inr (3, [.ref q1, .ref q2, .ref q3, .ref q4])), (q1, .inl (cI, 12, .inl hf)), (q2, .inl (cZ, 12, .inl bf)), (q3, .inr (2, [.ref q5, .int (nI (f_ln (hf i0.toNatClampNeg) (hf i1.toNatClampNeg))), .int (f_la (hf i0.toNatClampNeg) (hf i1.toNatClampNeg)), .int 1])), (q5, .inl (cI, 7, .inl (f_row tr (hf i0.toNatClampNeg) (hf i1.toNatClampNeg) (f_ln (hf i0.toNatClampNeg) (hf i1.toNatClampNeg))))), (qL, .inl (cL, 1, .inr (.inl (vp_updL lf (0 : Int32).toNatClampNeg ((nI (f_ln (hf i0.toNatClampNeg) (hf i1.toNatClampNeg))).toInt64)))))]) [1, 2, 3, 4, 5, 0] (by decide) rfl
  exact W.iret (v := 0) hx hb hr (fun t ht hW => ⟨⟨0, (), rfl, (rfl), by rw [ht]; exact hP9, va_K.moved hW.alike hK, hD9⟩, hS.F ht⟩) hS.2.2 dL_digits_22
set_option maxHeartbeats 4000000 in
set_option maxRecDepth 100000 in
theorem c_L_digits_noP (l : Launch) (D : va_G) (cI : ClassId) (cZ : ClassId) (o : Nat) (q1 : Nat) (q2 : Nat) (q3 : Nat) (q4 : Nat) (sz : Nat) (hf : Nat → Int32) (bf : Nat → Int32) (i0 : Int32) (i1 : Int32) (cL : ClassId) (qL : Nat) (lf : Nat → Int64) (gl : l.stackTraces = false) (gb : ¬ vp_in i0 12 ∨ ¬ vp_in i1 12) : Met l yL_digits wsL_digits ({ frames := 9, cells := 1, slots := 6, locals := 154 }) (va_Pc [.ref o, .int i0, .int i1, .ref qL] (ny_pre D [(cI, .int), (cZ, .boolean), (cL, .long)] [(o, .inr (3, [.ref q1, .ref q2, .ref q3, .ref q4])), (q1, .inl (cI, 12, .inl hf)), (q2, .inl (cZ, 12, .inl bf)), (qL, .inl (cL, 1, .inr (.inl lf)))] sz)) (va_Qi (fun (r : Int32) (u : Unit) => r = 1) (fun (u : Unit) t => ny_at D [(cI, .int), (cZ, .boolean), (cL, .long)] (va_A [(o, .inr (3, [.ref q1, .ref q2, .ref q3, .ref q4])), (q1, .inl (cI, 12, .inl hf)), (q2, .inl (cZ, 12, .inl bf)), (qL, .inl (cL, 1, .inr (.inl lf)))] sz) [(o, .inr (3, [.ref q1, .ref q2, .ref q3, .ref q4])), (q1, .inl (cI, 12, .inl hf)), (q2, .inl (cZ, 12, .inl bf)), (qL, .inl (cL, 1, .inr (.inl lf)))] t) (va_A [(o, .inr (3, [.ref q1, .ref q2, .ref q3, .ref q4])), (q1, .inl (cI, 12, .inl hf)), (q2, .inl (cZ, 12, .inl bf)), (qL, .inl (cL, 1, .inr (.inl lf)))] sz)) 1 6 (va_A [(o, .inr (3, [.ref q1, .ref q2, .ref q3, .ref q4])), (q1, .inl (cI, 12, .inl hf)), (q2, .inl (cZ, 12, .inl bf)), (qL, .inl (cL, 1, .inr (.inl lf)))] sz) := by
  refine va_MetW (cc := cL_digits) (maxL := 5) (ret := (some .int)) (by decide) rfl ?_
  intro p e s m args below meth c s₁ B hml hv
  obtain ⟨rfl, hsz, hP, hK, hD0, hE⟩ := hv
  have hx := B.exec
  have hb := B.bytes
  have hr := B.returns
  have hts := atoms_spec (ws := wsL_digits) B.pre
  have hown : s.vm.findClass RL = some m.cls := findClass_of_methodNamed B.named
  have hlocks := B.notSynchronized
  have htab := vx_table (x := yL_digits) B (hts _ List.mem_cons_self)
  subst hsz
  have hD := hD0.self (sz := s.heap.size)
  generalize hAe : va_A [(o, .inr (3, [.ref q1, .ref q2, .ref q3, .ref q4])), (q1, .inl (cI, 12, .inl hf)), (q2, .inl (cZ, 12, .inl bf)), (qL, .inl (cL, 1, .inr (.inl lf)))] s.heap.size = A at hD hE ⊢
  have hA : ∀ q : Nat, s.heap.size ≤ q → A q := fun q h => by rw [← hAe]; exact Or.inr h
  have hS : va_S A s.heap s.heap [] := va_S.rf
  have hl := lv_entry ([.ref o, .int i0, .int i1, .ref qL]) (n := 5) (Nat.le_of_ble_eq_true rfl)
  rw [lg_entry_eq]
  generalize (lg_sl ([.ref o, .int i0, .int i1, .ref qL]) ++ List.replicate (5 - (lg_sl ([.ref o, .int i0, .int i1, .ref qL])).length) Slot.unset).toArray = ls at hl ⊢
  have hl : lv_has ls 5 [(0, .ref o), (1, .int i0), (2, .int i1), (3, .ref qL)] := hl
  refine lv_aload_n hx hb dL_digits_0 rfl (lv_at hl 3 rfl) ?_
  refine lv_iconst (v := 0) hx hb dL_digits_1 (by decide) ?_
  refine lv_aload_n hx hb dL_digits_2 rfl (lv_at hl 0 rfl) ?_
  refine lv_iload_n hx hb dL_digits_3 rfl (lv_at hl 1 rfl) ?_
  refine lv_iload_n hx hb dL_digits_4 rfl (lv_at hl 2 rfl) ?_
  refine ny_x hS (va_free (wc := [(o, .inr (3, [.ref q1, .ref q2, .ref q3, .ref q4])), (q1, .inl (cI, 12, .inl hf)), (q2, .inl (cZ, 12, .inl bf))]) hD hS hA [0, 1, 2] rfl) (vx_runV (As := [.int i0, .int i1]) (rest := [.int 0, .ref qL]) ⟨hx, hb, hml, hown, hts⟩ (c_X1_digits_noP l D cI cZ o q1 q2 q3 q4 s.heap.size hf bf i0 i1 (by assumption) (by assumption)) (cwV 2 hts gL_digits_X1_digits rfl rfl rfl (by decide +kernel) ⟨Nat.le_of_ble_eq_true rfl, Nat.le_of_ble_eq_true rfl⟩) ⟨ny_blind, va_recv hK hP (ci := 3) (q0 := 0) rfl rfl, fun U hU hW => ⟨rfl, ny_preU hE hP hK hD hS hA [0, 1, 2] rfl (by decide) rfl [0, 1] rfl U hU hW⟩⟩ rfl rfl hl.1 rfl (lv_room (Nat.le_of_ble_eq_true rfl)) dL_digits_5 ⟨Nat.le_of_ble_eq_true rfl, Nat.le_of_ble_eq_true rfl⟩) (fun ce q9 H locs hz9 hk9 hS hc9 hv9 hn9 => ?_)
  have hP : va_P D vwCl [(o, .inr (3, [.ref q1, .ref q2, .ref q3, .ref q4])), (q1, .inl (cI, 12, .inl hf)), (q2, .inl (cZ, 12, .inl bf)), (qL, .inl (cL, 1, .inr (.inl lf)))] H := ny_keep hP hk9
  refine vx_catch (own := RL) (name := ny_IO) (E := ny_IO) hown (tableOf []) ⟨0, 10, 13, 13⟩ (tableOf [(0, 10, 17, 39)]) (htab.trans rfl) (fun z hz => absurd hz List.not_mem_nil) (by decide) (by decide) (hts (.classLink RL 13 "java/lang/IndexOutOfBoundsException") (List.mem_of_getElem? (i := 1) rfl)) (va_Nw.use rfl (hE.2.2.2.2.1 _ (List.mem_of_getElem? (i := 0) rfl))) hc9 hv9 hn9 ?_
  refine W.eq (g2 := F0 m 13 ls [.ref q9]) rfl ?_
  refine lv_astore (lv' := [(4, .ref q9), (0, .ref o), (1, .int i0), (2, .int i1), (3, .ref qL)]) hx hb dL_digits_13 hl (by decide) rfl (fun ls hl => ?_)
  refine lv_iconst (v := 1) hx hb dL_digits_15 (by decide) ?_
  have hP9 := hP.sub (ws' := [(o, .inr (3, [.ref q1, .ref q2, .ref q3, .ref q4])), (q1, .inl (cI, 12, .inl hf)), (q2, .inl (cZ, 12, .inl bf)), (qL, .inl (cL, 1, .inr (.inl lf)))]) [0, 1, 2, 3] rfl
  have hD9 := hD.sub (ws' := [(o, .inr (3, [.ref q1, .ref q2, .ref q3, .ref q4])), (q1, .inl (cI, 12, .inl hf)), (q2, .inl (cZ, 12, .inl bf)), (qL, .inl (cL, 1, .inr (.inl lf)))]) [0, 1, 2, 3] (by decide) rfl
  refine W.widen (k := 1) (n := 6) (Nat.le_of_ble_eq_true rfl) (Nat.le_of_ble_eq_true rfl) ?_
  exact W.iret (v := 1) hx hb hr (fun t ht hW => ⟨⟨1, (), rfl, (rfl), by rw [ht]; exact hP9, va_K.moved hW.alike hK, hD9⟩, hS.F ht⟩) hS.2.2 dL_digits_16
set_option maxHeartbeats 4000000 in
set_option maxRecDepth 100000 in
theorem c_L_digits_no0 (l : Launch) (D : va_G) (cI : ClassId) (cZ : ClassId) (o : Nat) (q1 : Nat) (q2 : Nat) (q3 : Nat) (q4 : Nat) (sz : Nat) (hf : Nat → Int32) (bf : Nat → Int32) (i0 : Int32) (i1 : Int32) (cL : ClassId) (qL : Nat) (lf : Nat → Int64) (gl : l.stackTraces = false) (gp0 : vp_in i0 12) (gp1 : vp_in i1 12) (g0 : hf i1.toNatClampNeg = 0) : Met l yL_digits wsL_digits ({ frames := 8, cells := 1, slots := 6, locals := 134 }) (va_Pc [.ref o, .int i0, .int i1, .ref qL] (ny_pre D [(cI, .int), (cZ, .boolean), (cL, .long)] [(o, .inr (3, [.ref q1, .ref q2, .ref q3, .ref q4])), (q1, .inl (cI, 12, .inl hf)), (q2, .inl (cZ, 12, .inl bf)), (qL, .inl (cL, 1, .inr (.inl lf)))] sz)) (va_Qi (fun (r : Int32) (u : Unit) => r = 2) (fun (u : Unit) t => ny_at D [(cI, .int), (cZ, .boolean), (cL, .long)] (va_A [(o, .inr (3, [.ref q1, .ref q2, .ref q3, .ref q4])), (q1, .inl (cI, 12, .inl hf)), (q2, .inl (cZ, 12, .inl bf)), (qL, .inl (cL, 1, .inr (.inl lf)))] sz) [(o, .inr (3, [.ref q1, .ref q2, .ref q3, .ref q4])), (q1, .inl (cI, 12, .inl hf)), (q2, .inl (cZ, 12, .inl bf)), (qL, .inl (cL, 1, .inr (.inl lf)))] t) (va_A [(o, .inr (3, [.ref q1, .ref q2, .ref q3, .ref q4])), (q1, .inl (cI, 12, .inl hf)), (q2, .inl (cZ, 12, .inl bf)), (qL, .inl (cL, 1, .inr (.inl lf)))] sz)) 1 6 (va_A [(o, .inr (3, [.ref q1, .ref q2, .ref q3, .ref q4])), (q1, .inl (cI, 12, .inl hf)), (q2, .inl (cZ, 12, .inl bf)), (qL, .inl (cL, 1, .inr (.inl lf)))] sz) := by
  refine va_MetW (cc := cL_digits) (maxL := 5) (ret := (some .int)) (by decide) rfl ?_
  intro p e s m args below meth c s₁ B hml hv
  obtain ⟨rfl, hsz, hP, hK, hD0, hE⟩ := hv
  have hx := B.exec
  have hb := B.bytes
  have hr := B.returns
  have hts := atoms_spec (ws := wsL_digits) B.pre
  have hown : s.vm.findClass RL = some m.cls := findClass_of_methodNamed B.named
  have hlocks := B.notSynchronized
  have htab := vx_table (x := yL_digits) B (hts _ List.mem_cons_self)
  subst hsz
  have hD := hD0.self (sz := s.heap.size)
  generalize hAe : va_A [(o, .inr (3, [.ref q1, .ref q2, .ref q3, .ref q4])), (q1, .inl (cI, 12, .inl hf)), (q2, .inl (cZ, 12, .inl bf)), (qL, .inl (cL, 1, .inr (.inl lf)))] s.heap.size = A at hD hE ⊢
  have hA : ∀ q : Nat, s.heap.size ≤ q → A q := fun q h => by rw [← hAe]; exact Or.inr h
  have hS : va_S A s.heap s.heap [] := va_S.rf
  have hl := lv_entry ([.ref o, .int i0, .int i1, .ref qL]) (n := 5) (Nat.le_of_ble_eq_true rfl)
  rw [lg_entry_eq]
  generalize (lg_sl ([.ref o, .int i0, .int i1, .ref qL]) ++ List.replicate (5 - (lg_sl ([.ref o, .int i0, .int i1, .ref qL])).length) Slot.unset).toArray = ls at hl ⊢
  have hl : lv_has ls 5 [(0, .ref o), (1, .int i0), (2, .int i1), (3, .ref qL)] := hl
  refine lv_aload_n hx hb dL_digits_0 rfl (lv_at hl 3 rfl) ?_
  refine lv_iconst (v := 0) hx hb dL_digits_1 (by decide) ?_
  refine lv_aload_n hx hb dL_digits_2 rfl (lv_at hl 0 rfl) ?_
  refine lv_iload_n hx hb dL_digits_3 rfl (lv_at hl 1 rfl) ?_
  refine lv_iload_n hx hb dL_digits_4 rfl (lv_at hl 2 rfl) ?_
  refine ny_x hS (va_free (wc := [(o, .inr (3, [.ref q1, .ref q2, .ref q3, .ref q4])), (q1, .inl (cI, 12, .inl hf)), (q2, .inl (cZ, 12, .inl bf))]) hD hS hA [0, 1, 2] rfl) (vx_runV (As := [.int i0, .int i1]) (rest := [.int 0, .ref qL]) ⟨hx, hb, hml, hown, hts⟩ (c_X1_digits_no0 l D cI cZ o q1 q2 q3 q4 s.heap.size hf bf i0 i1 (by assumption) (by assumption) (by assumption) (by assumption)) (cwV 2 hts gL_digits_X1_digits rfl rfl rfl (by decide +kernel) ⟨Nat.le_of_ble_eq_true rfl, Nat.le_of_ble_eq_true rfl⟩) ⟨ny_blind, va_recv hK hP (ci := 3) (q0 := 0) rfl rfl, fun U hU hW => ⟨rfl, ny_preU hE hP hK hD hS hA [0, 1, 2] rfl (by decide) rfl [0, 1] rfl U hU hW⟩⟩ rfl rfl hl.1 rfl (lv_room (Nat.le_of_ble_eq_true rfl)) dL_digits_5 ⟨Nat.le_of_ble_eq_true rfl, Nat.le_of_ble_eq_true rfl⟩) (fun ce q9 H locs hz9 hk9 hS hc9 hv9 hn9 => ?_)
  have hP : va_P D vwCl [(o, .inr (3, [.ref q1, .ref q2, .ref q3, .ref q4])), (q1, .inl (cI, 12, .inl hf)), (q2, .inl (cZ, 12, .inl bf)), (qL, .inl (cL, 1, .inr (.inl lf)))] H := ny_keep hP hk9
  refine vx_catch (own := RL) (name := ny_AE) (E := ny_AE) hown (tableOf [(0, 10, 13, 13)]) ⟨0, 10, 17, 39⟩ (tableOf []) (htab.trans rfl) (List.forall_mem_cons.mpr ⟨Or.inr ⟨(by decide), ny_IO, (hts (.classLink RL 13 "java/lang/IndexOutOfBoundsException") (List.mem_of_getElem? (i := 1) rfl)), (hE.2.2.2.2.2.1 _ (List.mem_of_getElem? (i := 0) rfl))⟩, (fun z hz => absurd hz List.not_mem_nil)⟩) (by decide) (by decide) (hts (.classLink RL 39 "java/lang/ArithmeticException") (List.mem_of_getElem? (i := 2) rfl)) (va_Nw.use rfl (hE.2.2.2.2.1 _ (List.mem_of_getElem? (i := 2) rfl))) hc9 hv9 hn9 ?_
  refine W.eq (g2 := F0 m 17 ls [.ref q9]) rfl ?_
  refine lv_astore (lv' := [(4, .ref q9), (0, .ref o), (1, .int i0), (2, .int i1), (3, .ref qL)]) hx hb dL_digits_17 hl (by decide) rfl (fun ls hl => ?_)
  refine lv_iconst (v := 2) hx hb dL_digits_19 (by decide) ?_
  have hP9 := hP.sub (ws' := [(o, .inr (3, [.ref q1, .ref q2, .ref q3, .ref q4])), (q1, .inl (cI, 12, .inl hf)), (q2, .inl (cZ, 12, .inl bf)), (qL, .inl (cL, 1, .inr (.inl lf)))]) [0, 1, 2, 3] rfl
  have hD9 := hD.sub (ws' := [(o, .inr (3, [.ref q1, .ref q2, .ref q3, .ref q4])), (q1, .inl (cI, 12, .inl hf)), (q2, .inl (cZ, 12, .inl bf)), (qL, .inl (cL, 1, .inr (.inl lf)))]) [0, 1, 2, 3] (by decide) rfl
  refine W.widen (k := 1) (n := 6) (Nat.le_of_ble_eq_true rfl) (Nat.le_of_ble_eq_true rfl) ?_
  exact W.iret (v := 2) hx hb hr (fun t ht hW => ⟨⟨2, (), rfl, (rfl), by rw [ht]; exact hP9, va_K.moved hW.alike hK, hD9⟩, hS.F ht⟩) hS.2.2 dL_digits_20
set_option maxHeartbeats 4000000 in
set_option maxRecDepth 100000 in
theorem c_L_digit (l : Launch) (D : va_G) (cI : ClassId) (o : Nat) (q1 : Nat) (q2 : Nat) (q3 : Nat) (q4 : Nat) (q5 : Nat) (sz : Nat) (tr : Nat → Int32) (tc : Int32) (tl : Int32) (te : Int32) (i0 : Int32) (cL : ClassId) (qL : Nat) (lf : Nat → Int64) (gi0 : 0 ≤ i0.toInt) (gi1 : i0 < tc) (g7 : tc.toInt ≤ 7) : Met l yL_digit wsL_digit ({ frames := 1, cells := 0, slots := 0, locals := 21 }) (va_Pc [.ref o, .int i0, .ref qL] (ny_pre D [(cI, .int), (cL, .long)] [(o, .inr (3, [.ref q1, .ref q2, .ref q3, .ref q4])), (q3, .inr (2, [.ref q5, .int tc, .int tl, .int te])), (q5, .inl (cI, 7, .inl tr)), (qL, .inl (cL, 1, .inr (.inl lf)))] sz)) (va_Qi (fun (r : Int32) (u : Unit) => r = 0) (fun (u : Unit) t => ny_at D [(cI, .int), (cL, .long)] (va_A [(o, .inr (3, [.ref q1, .ref q2, .ref q3, .ref q4])), (q3, .inr (2, [.ref q5, .int tc, .int tl, .int te])), (q5, .inl (cI, 7, .inl tr)), (qL, .inl (cL, 1, .inr (.inl lf)))] sz) [(o, .inr (3, [.ref q1, .ref q2, .ref q3, .ref q4])), (q3, .inr (2, [.ref q5, .int tc, .int tl, .int te])), (q5, .inl (cI, 7, .inl tr)), (qL, .inl (cL, 1, .inr (.inl (vp_updL lf (0 : Int32).toNatClampNeg ((tr i0.toNatClampNeg).toInt64)))))] t) (va_A [(o, .inr (3, [.ref q1, .ref q2, .ref q3, .ref q4])), (q3, .inr (2, [.ref q5, .int tc, .int tl, .int te])), (q5, .inl (cI, 7, .inl tr)), (qL, .inl (cL, 1, .inr (.inl lf)))] sz)) 0 0 (va_A [(o, .inr (3, [.ref q1, .ref q2, .ref q3, .ref q4])), (q3, .inr (2, [.ref q5, .int tc, .int tl, .int te])), (q5, .inl (cI, 7, .inl tr)), (qL, .inl (cL, 1, .inr (.inl lf)))] sz) := by
  refine va_MetW (cc := cL_digit) (maxL := 4) (ret := (some .int)) (by decide) rfl ?_
  intro p e s m args below meth c s₁ B hml hv
  obtain ⟨rfl, hsz, hP, hK, hD0, hE⟩ := hv
  have hx := B.exec
  have hb := B.bytes
  have hr := B.returns
  have hts := atoms_spec (ws := wsL_digit) B.pre
  have hown : s.vm.findClass RL = some m.cls := findClass_of_methodNamed B.named
  have hlocks := B.notSynchronized
  have htab := vx_table (x := yL_digit) B (hts _ List.mem_cons_self)
  subst hsz
  have hD := hD0.self (sz := s.heap.size)
  generalize hAe : va_A [(o, .inr (3, [.ref q1, .ref q2, .ref q3, .ref q4])), (q3, .inr (2, [.ref q5, .int tc, .int tl, .int te])), (q5, .inl (cI, 7, .inl tr)), (qL, .inl (cL, 1, .inr (.inl lf)))] s.heap.size = A at hD hE ⊢
  have hA : ∀ q : Nat, s.heap.size ≤ q → A q := fun q h => by rw [← hAe]; exact Or.inr h
  have hS : va_S A s.heap s.heap [] := va_S.rf
  have hl := lv_entry ([.ref o, .int i0, .ref qL]) (n := 4) (Nat.le_of_ble_eq_true rfl)
  rw [lg_entry_eq]
  generalize (lg_sl ([.ref o, .int i0, .ref qL]) ++ List.replicate (4 - (lg_sl ([.ref o, .int i0, .ref qL])).length) Slot.unset).toArray = ls at hl ⊢
  have hl : lv_has ls 4 [(0, .ref o), (1, .int i0), (2, .ref qL)] := hl
  refine lv_aload_n hx hb dL_digit_0 rfl (lv_at hl 2 rfl) ?_
  refine lv_iconst (v := 0) hx hb dL_digit_1 (by decide) ?_
  refine lv_aload_n hx hb dL_digit_2 rfl (lv_at hl 0 rfl) ?_
  refine lv_iload_n hx hb dL_digit_3 rfl (lv_at hl 1 rfl) ?_
  refine vp_callSi (va_Run.run (va_runV (As := [.int i0]) (rest := [.int 0, .ref qL]) ⟨hx, hb, hml, hown, hts⟩ (c_X1_digit l D cI o q1 q2 q3 q4 q5 s.heap.size tr tc tl te i0 (by assumption) (by assumption) (by assumption)) (cwV 1 hts gL_digit_X1_digit rfl rfl rfl (by decide +kernel) ⟨Nat.le_of_ble_eq_true rfl, Nat.le_of_ble_eq_true rfl⟩) ⟨ny_blind, va_recv hK hP (ci := 3) (q0 := 0) rfl rfl, fun U hU hW => ⟨rfl, ny_preU hE hP hK hD hS hA [0, 1, 2] rfl (by decide) rfl [0] rfl U hU hW⟩⟩ rfl rfl hl.1 rfl (lv_room (Nat.le_of_ble_eq_true rfl)) dL_digit_4 ⟨Nat.le_of_ble_eq_true rfl, Nat.le_of_ble_eq_true rfl⟩)) (fun r_4 hw_4 => ?_)
  have hw_4 : r_4 = tr i0.toNatClampNeg := hw_4
  subst hw_4
  refine lv_i2l hx hb dL_digit_7 rfl ?_
  refine va_last hx hb hK hP hD hS 3 1 rfl rfl (vp_in_iff.mpr (by decide)) dL_digit_8 (fun H locs hP hD hS => ?_)
  have hP : va_P D vwCl [(o, .inr (3, [.ref q1, .ref q2, .ref q3, .ref q4])), (q3, .inr (2, [.ref q5, .int tc, .int tl, .int te])), (q5, .inl (cI, 7, .inl tr)), (qL, .inl (cL, 1, .inr (.inl (vp_updL lf (0 : Int32).toNatClampNeg ((tr i0.toNatClampNeg).toInt64)))))] H := hP
  have hD : va_D A [(o, .inr (3, [.ref q1, .ref q2, .ref q3, .ref q4])), (q3, .inr (2, [.ref q5, .int tc, .int tl, .int te])), (q5, .inl (cI, 7, .inl tr)), (qL, .inl (cL, 1, .inr (.inl (vp_updL lf (0 : Int32).toNatClampNeg ((tr i0.toNatClampNeg).toInt64)))))] := hD
  refine lv_goto (tgt := 15) hx hb dL_digit_9 (by decide) ?_
  refine lv_iconst (v := 0) hx hb dL_digit_15 (by decide) ?_
  have hP9 := hP.sub (ws' := [(o, .inr (3, [.ref q1, .ref q2, .ref q3, .ref q4])), (q3, .inr (2, [.ref q5, .int tc, .int tl, .int te])), (q5, .inl (cI, 7, .inl tr)), (qL, .inl (cL, 1, .inr (.inl (vp_updL lf (0 : Int32).toNatClampNeg ((tr i0.toNatClampNeg).toInt64)))))]) [0, 1, 2, 3] rfl
  have hD9 := hD.sub (ws' := [(o, .inr (3, [.ref q1, .ref q2, .ref q3, .ref q4])), (q3, .inr (2, [.ref q5, .int tc, .int tl, .int te])), (q5, .inl (cI, 7, .inl tr)), (qL, .inl (cL, 1, .inr (.inl (vp_updL lf (0 : Int32).toNatClampNeg ((tr i0.toNatClampNeg).toInt64)))))]) [0, 1, 2, 3] (by decide) rfl
  exact W.iret (v := 0) hx hb hr (fun t ht hW => ⟨⟨0, (), rfl, (rfl), by rw [ht]; exact hP9, va_K.moved hW.alike hK, hD9⟩, hS.F ht⟩) hS.2.2 dL_digit_16
set_option maxHeartbeats 4000000 in
set_option maxRecDepth 100000 in
theorem c_L_digit_noP (l : Launch) (D : va_G) (o : Nat) (q1 : Nat) (q2 : Nat) (q3 : Nat) (q4 : Nat) (q5 : Nat) (sz : Nat) (tc : Int32) (tl : Int32) (te : Int32) (i0 : Int32) (cL : ClassId) (qL : Nat) (lf : Nat → Int64) (gl : l.stackTraces = false) (gi : ¬ (0 ≤ i0.toInt ∧ i0 < tc)) : Met l yL_digit wsL_digit ({ frames := 7, cells := 1, slots := 6, locals := 111 }) (va_Pc [.ref o, .int i0, .ref qL] (ny_pre D [(cL, .long)] [(o, .inr (3, [.ref q1, .ref q2, .ref q3, .ref q4])), (q3, .inr (2, [.ref q5, .int tc, .int tl, .int te])), (qL, .inl (cL, 1, .inr (.inl lf)))] sz)) (va_Qi (fun (r : Int32) (u : Unit) => r = 1) (fun (u : Unit) t => ny_at D [(cL, .long)] (va_A [(o, .inr (3, [.ref q1, .ref q2, .ref q3, .ref q4])), (q3, .inr (2, [.ref q5, .int tc, .int tl, .int te])), (qL, .inl (cL, 1, .inr (.inl lf)))] sz) [(o, .inr (3, [.ref q1, .ref q2, .ref q3, .ref q4])), (q3, .inr (2, [.ref q5, .int tc, .int tl, .int te])), (qL, .inl (cL, 1, .inr (.inl lf)))] t) (va_A [(o, .inr (3, [.ref q1, .ref q2, .ref q3, .ref q4])), (q3, .inr (2, [.ref q5, .int tc, .int tl, .int te])), (qL, .inl (cL, 1, .inr (.inl lf)))] sz)) 1 6 (va_A [(o, .inr (3, [.ref q1, .ref q2, .ref q3, .ref q4])), (q3, .inr (2, [.ref q5, .int tc, .int tl, .int te])), (qL, .inl (cL, 1, .inr (.inl lf)))] sz) := by
  refine va_MetW (cc := cL_digit) (maxL := 4) (ret := (some .int)) (by decide) rfl ?_
  intro p e s m args below meth c s₁ B hml hv
  obtain ⟨rfl, hsz, hP, hK, hD0, hE⟩ := hv
  have hx := B.exec
  have hb := B.bytes
  have hr := B.returns
  have hts := atoms_spec (ws := wsL_digit) B.pre
  have hown : s.vm.findClass RL = some m.cls := findClass_of_methodNamed B.named
  have hlocks := B.notSynchronized
  have htab := vx_table (x := yL_digit) B (hts _ List.mem_cons_self)
  subst hsz
  have hD := hD0.self (sz := s.heap.size)
  generalize hAe : va_A [(o, .inr (3, [.ref q1, .ref q2, .ref q3, .ref q4])), (q3, .inr (2, [.ref q5, .int tc, .int tl, .int te])), (qL, .inl (cL, 1, .inr (.inl lf)))] s.heap.size = A at hD hE ⊢
  have hA : ∀ q : Nat, s.heap.size ≤ q → A q := fun q h => by rw [← hAe]; exact Or.inr h
  have hS : va_S A s.heap s.heap [] := va_S.rf
  have hl := lv_entry ([.ref o, .int i0, .ref qL]) (n := 4) (Nat.le_of_ble_eq_true rfl)
  rw [lg_entry_eq]
  generalize (lg_sl ([.ref o, .int i0, .ref qL]) ++ List.replicate (4 - (lg_sl ([.ref o, .int i0, .ref qL])).length) Slot.unset).toArray = ls at hl ⊢
  have hl : lv_has ls 4 [(0, .ref o), (1, .int i0), (2, .ref qL)] := hl
  refine lv_aload_n hx hb dL_digit_0 rfl (lv_at hl 2 rfl) ?_
  refine lv_iconst (v := 0) hx hb dL_digit_1 (by decide) ?_
  refine lv_aload_n hx hb dL_digit_2 rfl (lv_at hl 0 rfl) ?_
  refine lv_iload_n hx hb dL_digit_3 rfl (lv_at hl 1 rfl) ?_
  refine ny_x hS (va_free (wc := [(o, .inr (3, [.ref q1, .ref q2, .ref q3, .ref q4])), (q3, .inr (2, [.ref q5, .int tc, .int tl, .int te]))]) hD hS hA [0, 1] rfl) (vx_runV (As := [.int i0]) (rest := [.int 0, .ref qL]) ⟨hx, hb, hml, hown, hts⟩ (c_X1_digit_noP l D o q1 q2 q3 q4 q5 s.heap.size tc tl te i0 (by assumption) (by assumption)) (cwV 1 hts gL_digit_X1_digit rfl rfl rfl (by decide +kernel) ⟨Nat.le_of_ble_eq_true rfl, Nat.le_of_ble_eq_true rfl⟩) ⟨ny_blind, va_recv hK hP (ci := 3) (q0 := 0) rfl rfl, fun U hU hW => ⟨rfl, ny_preU hE hP hK hD hS hA [0, 1] rfl (by decide) rfl [] rfl U hU hW⟩⟩ rfl rfl hl.1 rfl (lv_room (Nat.le_of_ble_eq_true rfl)) dL_digit_4 ⟨Nat.le_of_ble_eq_true rfl, Nat.le_of_ble_eq_true rfl⟩) (fun ce q9 H locs hz9 hk9 hS hc9 hv9 hn9 => ?_)
  have hP : va_P D vwCl [(o, .inr (3, [.ref q1, .ref q2, .ref q3, .ref q4])), (q3, .inr (2, [.ref q5, .int tc, .int tl, .int te])), (qL, .inl (cL, 1, .inr (.inl lf)))] H := ny_keep hP hk9
  refine vx_catch (own := RL) (name := ny_IO) (E := ny_IO) hown (tableOf []) ⟨0, 9, 12, 13⟩ (tableOf []) (htab.trans rfl) (fun z hz => absurd hz List.not_mem_nil) (by decide) (by decide) (hts (.classLink RL 13 "java/lang/IndexOutOfBoundsException") (List.mem_of_getElem? (i := 1) rfl)) (va_Nw.use rfl (hE.2.2.2.2.1 _ (List.mem_of_getElem? (i := 0) rfl))) hc9 hv9 hn9 ?_
  refine W.eq (g2 := F0 m 12 ls [.ref q9]) rfl ?_
  refine lv_astore_n (lv' := [(3, .ref q9), (0, .ref o), (1, .int i0), (2, .ref qL)]) hx hb dL_digit_12 rfl hl (by decide) rfl (fun ls hl => ?_)
  refine lv_iconst (v := 1) hx hb dL_digit_13 (by decide) ?_
  have hP9 := hP.sub (ws' := [(o, .inr (3, [.ref q1, .ref q2, .ref q3, .ref q4])), (q3, .inr (2, [.ref q5, .int tc, .int tl, .int te])), (qL, .inl (cL, 1, .inr (.inl lf)))]) [0, 1, 2] rfl
  have hD9 := hD.sub (ws' := [(o, .inr (3, [.ref q1, .ref q2, .ref q3, .ref q4])), (q3, .inr (2, [.ref q5, .int tc, .int tl, .int te])), (qL, .inl (cL, 1, .inr (.inl lf)))]) [0, 1, 2] (by decide) rfl
  refine W.widen (k := 1) (n := 6) (Nat.le_of_ble_eq_true rfl) (Nat.le_of_ble_eq_true rfl) ?_
  exact W.iret (v := 1) hx hb hr (fun t ht hW => ⟨⟨1, (), rfl, (rfl), by rw [ht]; exact hP9, va_K.moved hW.alike hK, hD9⟩, hS.F ht⟩) hS.2.2 dL_digit_14
set_option maxHeartbeats 4000000 in
set_option maxRecDepth 100000 in
theorem c_L_above (l : Launch) (D : va_G) (cI : ClassId) (o : Nat) (q1 : Nat) (q2 : Nat) (q3 : Nat) (q4 : Nat) (q5 : Nat) (sz : Nat) (tr : Nat → Int32) (tc : Int32) (tl : Int32) (te : Int32) (i0 : Int32) (cL : ClassId) (qL : Nat) (lf : Nat → Int64) (gi0 : 0 ≤ i0.toInt) (gi1 : i0 ≤ tc) (g7 : tc.toInt ≤ 7) : Met l yL_above wsL_above ({ frames := 3, cells := 0, slots := 0, locals := 69 }) (va_Pc [.ref o, .int i0, .ref qL] (ny_pre D [(cI, .int), (cL, .long)] [(o, .inr (3, [.ref q1, .ref q2, .ref q3, .ref q4])), (q3, .inr (2, [.ref q5, .int tc, .int tl, .int te])), (q5, .inl (cI, 7, .inl tr)), (qL, .inl (cL, 1, .inr (.inl lf)))] sz)) (va_Qi (fun (r : Int32) (u : Unit) => r = 0) (fun (u : Unit) t => ny_at D [(cI, .int), (cL, .long)] (va_A [(o, .inr (3, [.ref q1, .ref q2, .ref q3, .ref q4])), (q3, .inr (2, [.ref q5, .int tc, .int tl, .int te])), (q5, .inl (cI, 7, .inl tr)), (qL, .inl (cL, 1, .inr (.inl lf)))] sz) [(o, .inr (3, [.ref q1, .ref q2, .ref q3, .ref q4])), (q3, .inr (2, [.ref q5, .int tc, .int tl, .int te])), (q5, .inl (cI, 7, .inl tr)), (qL, .inl (cL, 1, .inr (.inl (vp_updL lf (0 : Int32).toNatClampNeg (((f_sh tr 0 1 i0.toNatClampNeg).2).toInt64)))))] t) (va_A [(o, .inr (3, [.ref q1, .ref q2, .ref q3, .ref q4])), (q3, .inr (2, [.ref q5, .int tc, .int tl, .int te])), (q5, .inl (cI, 7, .inl tr)), (qL, .inl (cL, 1, .inr (.inl lf)))] sz)) 0 0 (va_A [(o, .inr (3, [.ref q1, .ref q2, .ref q3, .ref q4])), (q3, .inr (2, [.ref q5, .int tc, .int tl, .int te])), (q5, .inl (cI, 7, .inl tr)), (qL, .inl (cL, 1, .inr (.inl lf)))] sz) := by
  refine va_MetW (cc := cL_above) (maxL := 4) (ret := (some .int)) (by decide) rfl ?_
  intro p e s m args below meth c s₁ B hml hv
  obtain ⟨rfl, hsz, hP, hK, hD0, hE⟩ := hv
  have hx := B.exec
  have hb := B.bytes
  have hr := B.returns
  have hts := atoms_spec (ws := wsL_above) B.pre
  have hown : s.vm.findClass RL = some m.cls := findClass_of_methodNamed B.named
  have hlocks := B.notSynchronized
  have htab := vx_table (x := yL_above) B (hts _ List.mem_cons_self)
  subst hsz
  have hD := hD0.self (sz := s.heap.size)
  generalize hAe : va_A [(o, .inr (3, [.ref q1, .ref q2, .ref q3, .ref q4])), (q3, .inr (2, [.ref q5, .int tc, .int tl, .int te])), (q5, .inl (cI, 7, .inl tr)), (qL, .inl (cL, 1, .inr (.inl lf)))] s.heap.size = A at hD hE ⊢
  have hA : ∀ q : Nat, s.heap.size ≤ q → A q := fun q h => by rw [← hAe]; exact Or.inr h
  have hS : va_S A s.heap s.heap [] := va_S.rf
  have hl := lv_entry ([.ref o, .int i0, .ref qL]) (n := 4) (Nat.le_of_ble_eq_true rfl)
  rw [lg_entry_eq]
  generalize (lg_sl ([.ref o, .int i0, .ref qL]) ++ List.replicate (4 - (lg_sl ([.ref o, .int i0, .ref qL])).length) Slot.unset).toArray = ls at hl ⊢
  have hl : lv_has ls 4 [(0, .ref o), (1, .int i0), (2, .ref qL)] := hl
  refine lv_aload_n hx hb dL_above_0 rfl (lv_at hl 2 rfl) ?_
  refine lv_iconst (v := 0) hx hb dL_above_1 (by decide) ?_
  refine lv_aload_n hx hb dL_above_2 rfl (lv_at hl 0 rfl) ?_
  refine lv_iload_n hx hb dL_above_3 rfl (lv_at hl 1 rfl) ?_
  refine vp_callSi (va_Run.run (va_runV (As := [.int i0]) (rest := [.int 0, .ref qL]) ⟨hx, hb, hml, hown, hts⟩ (c_X1_above l D cI o q1 q2 q3 q4 q5 s.heap.size tr tc tl te i0 (by assumption) (by assumption) (by assumption)) (cwV 1 hts gL_above_X1_above rfl rfl rfl (by decide +kernel) ⟨Nat.le_of_ble_eq_true rfl, Nat.le_of_ble_eq_true rfl⟩) ⟨ny_blind, va_recv hK hP (ci := 3) (q0 := 0) rfl rfl, fun U hU hW => ⟨rfl, ny_preU hE hP hK hD hS hA [0, 1, 2] rfl (by decide) rfl [0] rfl U hU hW⟩⟩ rfl rfl hl.1 rfl (lv_room (Nat.le_of_ble_eq_true rfl)) dL_above_4 ⟨Nat.le_of_ble_eq_true rfl, Nat.le_of_ble_eq_true rfl⟩)) (fun r_4 hw_4 => ?_)
  have hw_4 : r_4 = (f_sh tr 0 1 i0.toNatClampNeg).2 := hw_4
  subst hw_4
  refine lv_i2l hx hb dL_above_7 rfl ?_
  refine va_last hx hb hK hP hD hS 3 1 rfl rfl (vp_in_iff.mpr (by decide)) dL_above_8 (fun H locs hP hD hS => ?_)
  have hP : va_P D vwCl [(o, .inr (3, [.ref q1, .ref q2, .ref q3, .ref q4])), (q3, .inr (2, [.ref q5, .int tc, .int tl, .int te])), (q5, .inl (cI, 7, .inl tr)), (qL, .inl (cL, 1, .inr (.inl (vp_updL lf (0 : Int32).toNatClampNeg (((f_sh tr 0 1 i0.toNatClampNeg).2).toInt64)))))] H := hP
  have hD : va_D A [(o, .inr (3, [.ref q1, .ref q2, .ref q3, .ref q4])), (q3, .inr (2, [.ref q5, .int tc, .int tl, .int te])), (q5, .inl (cI, 7, .inl tr)), (qL, .inl (cL, 1, .inr (.inl (vp_updL lf (0 : Int32).toNatClampNeg (((f_sh tr 0 1 i0.toNatClampNeg).2).toInt64)))))] := hD
  refine lv_goto (tgt := 15) hx hb dL_above_9 (by decide) ?_
  refine lv_iconst (v := 0) hx hb dL_above_15 (by decide) ?_
  have hP9 := hP.sub (ws' := [(o, .inr (3, [.ref q1, .ref q2, .ref q3, .ref q4])), (q3, .inr (2, [.ref q5, .int tc, .int tl, .int te])), (q5, .inl (cI, 7, .inl tr)), (qL, .inl (cL, 1, .inr (.inl (vp_updL lf (0 : Int32).toNatClampNeg (((f_sh tr 0 1 i0.toNatClampNeg).2).toInt64)))))]) [0, 1, 2, 3] rfl
  have hD9 := hD.sub (ws' := [(o, .inr (3, [.ref q1, .ref q2, .ref q3, .ref q4])), (q3, .inr (2, [.ref q5, .int tc, .int tl, .int te])), (q5, .inl (cI, 7, .inl tr)), (qL, .inl (cL, 1, .inr (.inl (vp_updL lf (0 : Int32).toNatClampNeg (((f_sh tr 0 1 i0.toNatClampNeg).2).toInt64)))))]) [0, 1, 2, 3] (by decide) rfl
  exact W.iret (v := 0) hx hb hr (fun t ht hW => ⟨⟨0, (), rfl, (rfl), by rw [ht]; exact hP9, va_K.moved hW.alike hK, hD9⟩, hS.F ht⟩) hS.2.2 dL_above_16
set_option maxHeartbeats 4000000 in
set_option maxRecDepth 100000 in
theorem c_L_above_noP (l : Launch) (D : va_G) (o : Nat) (q1 : Nat) (q2 : Nat) (q3 : Nat) (q4 : Nat) (q5 : Nat) (sz : Nat) (tc : Int32) (tl : Int32) (te : Int32) (i0 : Int32) (cL : ClassId) (qL : Nat) (lf : Nat → Int64) (gl : l.stackTraces = false) (gi : ¬ (0 ≤ i0.toInt ∧ i0 ≤ tc)) : Met l yL_above wsL_above ({ frames := 8, cells := 1, slots := 6, locals := 132 }) (va_Pc [.ref o, .int i0, .ref qL] (ny_pre D [(cL, .long)] [(o, .inr (3, [.ref q1, .ref q2, .ref q3, .ref q4])), (q3, .inr (2, [.ref q5, .int tc, .int tl, .int te])), (qL, .inl (cL, 1, .inr (.inl lf)))] sz)) (va_Qi (fun (r : Int32) (u : Unit) => r = 1) (fun (u : Unit) t => ny_at D [(cL, .long)] (va_A [(o, .inr (3, [.ref q1, .ref q2, .ref q3, .ref q4])), (q3, .inr (2, [.ref q5, .int tc, .int tl, .int te])), (qL, .inl (cL, 1, .inr (.inl lf)))] sz) [(o, .inr (3, [.ref q1, .ref q2, .ref q3, .ref q4])), (q3, .inr (2, [.ref q5, .int tc, .int tl, .int te])), (qL, .inl (cL, 1, .inr (.inl lf)))] t) (va_A [(o, .inr (3, [.ref q1, .ref q2, .ref q3, .ref q4])), (q3, .inr (2, [.ref q5, .int tc, .int tl, .int te])), (qL, .inl (cL, 1, .inr (.inl lf)))] sz)) 1 6 (va_A [(o, .inr (3, [.ref q1, .ref q2, .ref q3, .ref q4])), (q3, .inr (2, [.ref q5, .int tc, .int tl, .int te])), (qL, .inl (cL, 1, .inr (.inl lf)))] sz) := by
  refine va_MetW (cc := cL_above) (maxL := 4) (ret := (some .int)) (by decide) rfl ?_
  intro p e s m args below meth c s₁ B hml hv
  obtain ⟨rfl, hsz, hP, hK, hD0, hE⟩ := hv
  have hx := B.exec
  have hb := B.bytes
  have hr := B.returns
  have hts := atoms_spec (ws := wsL_above) B.pre
  have hown : s.vm.findClass RL = some m.cls := findClass_of_methodNamed B.named
  have hlocks := B.notSynchronized
  have htab := vx_table (x := yL_above) B (hts _ List.mem_cons_self)
  subst hsz
  have hD := hD0.self (sz := s.heap.size)
  generalize hAe : va_A [(o, .inr (3, [.ref q1, .ref q2, .ref q3, .ref q4])), (q3, .inr (2, [.ref q5, .int tc, .int tl, .int te])), (qL, .inl (cL, 1, .inr (.inl lf)))] s.heap.size = A at hD hE ⊢
  have hA : ∀ q : Nat, s.heap.size ≤ q → A q := fun q h => by rw [← hAe]; exact Or.inr h
  have hS : va_S A s.heap s.heap [] := va_S.rf
  have hl := lv_entry ([.ref o, .int i0, .ref qL]) (n := 4) (Nat.le_of_ble_eq_true rfl)
  rw [lg_entry_eq]
  generalize (lg_sl ([.ref o, .int i0, .ref qL]) ++ List.replicate (4 - (lg_sl ([.ref o, .int i0, .ref qL])).length) Slot.unset).toArray = ls at hl ⊢
  have hl : lv_has ls 4 [(0, .ref o), (1, .int i0), (2, .ref qL)] := hl
  refine lv_aload_n hx hb dL_above_0 rfl (lv_at hl 2 rfl) ?_
  refine lv_iconst (v := 0) hx hb dL_above_1 (by decide) ?_
  refine lv_aload_n hx hb dL_above_2 rfl (lv_at hl 0 rfl) ?_
  refine lv_iload_n hx hb dL_above_3 rfl (lv_at hl 1 rfl) ?_
  refine ny_x hS (va_free (wc := [(o, .inr (3, [.ref q1, .ref q2, .ref q3, .ref q4])), (q3, .inr (2, [.ref q5, .int tc, .int tl, .int te]))]) hD hS hA [0, 1] rfl) (vx_runV (As := [.int i0]) (rest := [.int 0, .ref qL]) ⟨hx, hb, hml, hown, hts⟩ (c_X1_above_noP l D o q1 q2 q3 q4 q5 s.heap.size tc tl te i0 (by assumption) (by assumption)) (cwV 1 hts gL_above_X1_above rfl rfl rfl (by decide +kernel) ⟨Nat.le_of_ble_eq_true rfl, Nat.le_of_ble_eq_true rfl⟩) ⟨ny_blind, va_recv hK hP (ci := 3) (q0 := 0) rfl rfl, fun U hU hW => ⟨rfl, ny_preU hE hP hK hD hS hA [0, 1] rfl (by decide) rfl [] rfl U hU hW⟩⟩ rfl rfl hl.1 rfl (lv_room (Nat.le_of_ble_eq_true rfl)) dL_above_4 ⟨Nat.le_of_ble_eq_true rfl, Nat.le_of_ble_eq_true rfl⟩) (fun ce q9 H locs hz9 hk9 hS hc9 hv9 hn9 => ?_)
  have hP : va_P D vwCl [(o, .inr (3, [.ref q1, .ref q2, .ref q3, .ref q4])), (q3, .inr (2, [.ref q5, .int tc, .int tl, .int te])), (qL, .inl (cL, 1, .inr (.inl lf)))] H := ny_keep hP hk9
  refine vx_catch (own := RL) (name := ny_IO) (E := ny_IO) hown (tableOf []) ⟨0, 9, 12, 13⟩ (tableOf []) (htab.trans rfl) (fun z hz => absurd hz List.not_mem_nil) (by decide) (by decide) (hts (.classLink RL 13 "java/lang/IndexOutOfBoundsException") (List.mem_of_getElem? (i := 1) rfl)) (va_Nw.use rfl (hE.2.2.2.2.1 _ (List.mem_of_getElem? (i := 0) rfl))) hc9 hv9 hn9 ?_
  refine W.eq (g2 := F0 m 12 ls [.ref q9]) rfl ?_
  refine lv_astore_n (lv' := [(3, .ref q9), (0, .ref o), (1, .int i0), (2, .ref qL)]) hx hb dL_above_12 rfl hl (by decide) rfl (fun ls hl => ?_)
  refine lv_iconst (v := 1) hx hb dL_above_13 (by decide) ?_
  have hP9 := hP.sub (ws' := [(o, .inr (3, [.ref q1, .ref q2, .ref q3, .ref q4])), (q3, .inr (2, [.ref q5, .int tc, .int tl, .int te])), (qL, .inl (cL, 1, .inr (.inl lf)))]) [0, 1, 2] rfl
  have hD9 := hD.sub (ws' := [(o, .inr (3, [.ref q1, .ref q2, .ref q3, .ref q4])), (q3, .inr (2, [.ref q5, .int tc, .int tl, .int te])), (qL, .inl (cL, 1, .inr (.inl lf)))]) [0, 1, 2] (by decide) rfl
  refine W.widen (k := 1) (n := 6) (Nat.le_of_ble_eq_true rfl) (Nat.le_of_ble_eq_true rfl) ?_
  exact W.iret (v := 1) hx hb hr (fun t ht hW => ⟨⟨1, (), rfl, (rfl), by rw [ht]; exact hP9, va_K.moved hW.alike hK, hD9⟩, hS.F ht⟩) hS.2.2 dL_above_14
set_option maxHeartbeats 4000000 in
set_option maxRecDepth 100000 in
theorem c_L_below (l : Launch) (D : va_G) (cI : ClassId) (o : Nat) (q1 : Nat) (q2 : Nat) (q3 : Nat) (q4 : Nat) (q5 : Nat) (sz : Nat) (tr : Nat → Int32) (tc : Int32) (tl : Int32) (te : Int32) (i0 : Int32) (cL : ClassId) (qL : Nat) (lf : Nat → Int64) (gi0 : 0 ≤ i0.toInt) (gi1 : i0 ≤ tc) (g7 : tc.toInt ≤ 7) : Met l yL_below wsL_below ({ frames := 3, cells := 0, slots := 0, locals := 69 }) (va_Pc [.ref o, .int i0, .ref qL] (ny_pre D [(cI, .int), (cL, .long)] [(o, .inr (3, [.ref q1, .ref q2, .ref q3, .ref q4])), (q3, .inr (2, [.ref q5, .int tc, .int tl, .int te])), (q5, .inl (cI, 7, .inl tr)), (qL, .inl (cL, 1, .inr (.inl lf)))] sz)) (va_Qi (fun (r : Int32) (u : Unit) => r = 0) (fun (u : Unit) t => ny_at D [(cI, .int), (cL, .long)] (va_A [(o, .inr (3, [.ref q1, .ref q2, .ref q3, .ref q4])), (q3, .inr (2, [.ref q5, .int tc, .int tl, .int te])), (q5, .inl (cI, 7, .inl tr)), (qL, .inl (cL, 1, .inr (.inl lf)))] sz) [(o, .inr (3, [.ref q1, .ref q2, .ref q3, .ref q4])), (q3, .inr (2, [.ref q5, .int tc, .int tl, .int te])), (q5, .inl (cI, 7, .inl tr)), (qL, .inl (cL, 1, .inr (.inl (vp_updL lf (0 : Int32).toNatClampNeg (((f_sh tr 1 0 i0.toNatClampNeg).2).toInt64)))))] t) (va_A [(o, .inr (3, [.ref q1, .ref q2, .ref q3, .ref q4])), (q3, .inr (2, [.ref q5, .int tc, .int tl, .int te])), (q5, .inl (cI, 7, .inl tr)), (qL, .inl (cL, 1, .inr (.inl lf)))] sz)) 0 0 (va_A [(o, .inr (3, [.ref q1, .ref q2, .ref q3, .ref q4])), (q3, .inr (2, [.ref q5, .int tc, .int tl, .int te])), (q5, .inl (cI, 7, .inl tr)), (qL, .inl (cL, 1, .inr (.inl lf)))] sz) := by
  refine va_MetW (cc := cL_below) (maxL := 4) (ret := (some .int)) (by decide) rfl ?_
  intro p e s m args below meth c s₁ B hml hv
  obtain ⟨rfl, hsz, hP, hK, hD0, hE⟩ := hv
  have hx := B.exec
  have hb := B.bytes
  have hr := B.returns
  have hts := atoms_spec (ws := wsL_below) B.pre
  have hown : s.vm.findClass RL = some m.cls := findClass_of_methodNamed B.named
  have hlocks := B.notSynchronized
  have htab := vx_table (x := yL_below) B (hts _ List.mem_cons_self)
  subst hsz
  have hD := hD0.self (sz := s.heap.size)
  generalize hAe : va_A [(o, .inr (3, [.ref q1, .ref q2, .ref q3, .ref q4])), (q3, .inr (2, [.ref q5, .int tc, .int tl, .int te])), (q5, .inl (cI, 7, .inl tr)), (qL, .inl (cL, 1, .inr (.inl lf)))] s.heap.size = A at hD hE ⊢
  have hA : ∀ q : Nat, s.heap.size ≤ q → A q := fun q h => by rw [← hAe]; exact Or.inr h
  have hS : va_S A s.heap s.heap [] := va_S.rf
  have hl := lv_entry ([.ref o, .int i0, .ref qL]) (n := 4) (Nat.le_of_ble_eq_true rfl)
  rw [lg_entry_eq]
  generalize (lg_sl ([.ref o, .int i0, .ref qL]) ++ List.replicate (4 - (lg_sl ([.ref o, .int i0, .ref qL])).length) Slot.unset).toArray = ls at hl ⊢
  have hl : lv_has ls 4 [(0, .ref o), (1, .int i0), (2, .ref qL)] := hl
  refine lv_aload_n hx hb dL_below_0 rfl (lv_at hl 2 rfl) ?_
  refine lv_iconst (v := 0) hx hb dL_below_1 (by decide) ?_
  refine lv_aload_n hx hb dL_below_2 rfl (lv_at hl 0 rfl) ?_
  refine lv_iload_n hx hb dL_below_3 rfl (lv_at hl 1 rfl) ?_
  refine vp_callSi (va_Run.run (va_runV (As := [.int i0]) (rest := [.int 0, .ref qL]) ⟨hx, hb, hml, hown, hts⟩ (c_X1_below l D cI o q1 q2 q3 q4 q5 s.heap.size tr tc tl te i0 (by assumption) (by assumption) (by assumption)) (cwV 1 hts gL_below_X1_below rfl rfl rfl (by decide +kernel) ⟨Nat.le_of_ble_eq_true rfl, Nat.le_of_ble_eq_true rfl⟩) ⟨ny_blind, va_recv hK hP (ci := 3) (q0 := 0) rfl rfl, fun U hU hW => ⟨rfl, ny_preU hE hP hK hD hS hA [0, 1, 2] rfl (by decide) rfl [0] rfl U hU hW⟩⟩ rfl rfl hl.1 rfl (lv_room (Nat.le_of_ble_eq_true rfl)) dL_below_4 ⟨Nat.le_of_ble_eq_true rfl, Nat.le_of_ble_eq_true rfl⟩)) (fun r_4 hw_4 => ?_)
  have hw_4 : r_4 = (f_sh tr 1 0 i0.toNatClampNeg).2 := hw_4
  subst hw_4
  refine lv_i2l hx hb dL_below_7 rfl ?_
  refine va_last hx hb hK hP hD hS 3 1 rfl rfl (vp_in_iff.mpr (by decide)) dL_below_8 (fun H locs hP hD hS => ?_)
  have hP : va_P D vwCl [(o, .inr (3, [.ref q1, .ref q2, .ref q3, .ref q4])), (q3, .inr (2, [.ref q5, .int tc, .int tl, .int te])), (q5, .inl (cI, 7, .inl tr)), (qL, .inl (cL, 1, .inr (.inl (vp_updL lf (0 : Int32).toNatClampNeg (((f_sh tr 1 0 i0.toNatClampNeg).2).toInt64)))))] H := hP
  have hD : va_D A [(o, .inr (3, [.ref q1, .ref q2, .ref q3, .ref q4])), (q3, .inr (2, [.ref q5, .int tc, .int tl, .int te])), (q5, .inl (cI, 7, .inl tr)), (qL, .inl (cL, 1, .inr (.inl (vp_updL lf (0 : Int32).toNatClampNeg (((f_sh tr 1 0 i0.toNatClampNeg).2).toInt64)))))] := hD
  refine lv_goto (tgt := 15) hx hb dL_below_9 (by decide) ?_
  refine lv_iconst (v := 0) hx hb dL_below_15 (by decide) ?_
  have hP9 := hP.sub (ws' := [(o, .inr (3, [.ref q1, .ref q2, .ref q3, .ref q4])), (q3, .inr (2, [.ref q5, .int tc, .int tl, .int te])), (q5, .inl (cI, 7, .inl tr)), (qL, .inl (cL, 1, .inr (.inl (vp_updL lf (0 : Int32).toNatClampNeg (((f_sh tr 1 0 i0.toNatClampNeg).2).toInt64)))))]) [0, 1, 2, 3] rfl
  have hD9 := hD.sub (ws' := [(o, .inr (3, [.ref q1, .ref q2, .ref q3, .ref q4])), (q3, .inr (2, [.ref q5, .int tc, .int tl, .int te])), (q5, .inl (cI, 7, .inl tr)), (qL, .inl (cL, 1, .inr (.inl (vp_updL lf (0 : Int32).toNatClampNeg (((f_sh tr 1 0 i0.toNatClampNeg).2).toInt64)))))]) [0, 1, 2, 3] (by decide) rfl
  exact W.iret (v := 0) hx hb hr (fun t ht hW => ⟨⟨0, (), rfl, (rfl), by rw [ht]; exact hP9, va_K.moved hW.alike hK, hD9⟩, hS.F ht⟩) hS.2.2 dL_below_16
set_option maxHeartbeats 4000000 in
set_option maxRecDepth 100000 in
theorem c_L_below_noP (l : Launch) (D : va_G) (o : Nat) (q1 : Nat) (q2 : Nat) (q3 : Nat) (q4 : Nat) (q5 : Nat) (sz : Nat) (tc : Int32) (tl : Int32) (te : Int32) (i0 : Int32) (cL : ClassId) (qL : Nat) (lf : Nat → Int64) (gl : l.stackTraces = false) (gi : ¬ (0 ≤ i0.toInt ∧ i0 ≤ tc)) : Met l yL_below wsL_below ({ frames := 8, cells := 1, slots := 6, locals := 132 }) (va_Pc [.ref o, .int i0, .ref qL] (ny_pre D [(cL, .long)] [(o, .inr (3, [.ref q1, .ref q2, .ref q3, .ref q4])), (q3, .inr (2, [.ref q5, .int tc, .int tl, .int te])), (qL, .inl (cL, 1, .inr (.inl lf)))] sz)) (va_Qi (fun (r : Int32) (u : Unit) => r = 1) (fun (u : Unit) t => ny_at D [(cL, .long)] (va_A [(o, .inr (3, [.ref q1, .ref q2, .ref q3, .ref q4])), (q3, .inr (2, [.ref q5, .int tc, .int tl, .int te])), (qL, .inl (cL, 1, .inr (.inl lf)))] sz) [(o, .inr (3, [.ref q1, .ref q2, .ref q3, .ref q4])), (q3, .inr (2, [.ref q5, .int tc, .int tl, .int te])), (qL, .inl (cL, 1, .inr (.inl lf)))] t) (va_A [(o, .inr (3, [.ref q1, .ref q2, .ref q3, .ref q4])), (q3, .inr (2, [.ref q5, .int tc, .int tl, .int te])), (qL, .inl (cL, 1, .inr (.inl lf)))] sz)) 1 6 (va_A [(o, .inr (3, [.ref q1, .ref q2, .ref q3, .ref q4])), (q3, .inr (2, [.ref q5, .int tc, .int tl, .int te])), (qL, .inl (cL, 1, .inr (.inl lf)))] sz) := by
  refine va_MetW (cc := cL_below) (maxL := 4) (ret := (some .int)) (by decide) rfl ?_
  intro p e s m args below meth c s₁ B hml hv
  obtain ⟨rfl, hsz, hP, hK, hD0, hE⟩ := hv
  have hx := B.exec
  have hb := B.bytes
  have hr := B.returns
  have hts := atoms_spec (ws := wsL_below) B.pre
  have hown : s.vm.findClass RL = some m.cls := findClass_of_methodNamed B.named
  have hlocks := B.notSynchronized
  have htab := vx_table (x := yL_below) B (hts _ List.mem_cons_self)
  subst hsz
  have hD := hD0.self (sz := s.heap.size)
  generalize hAe : va_A [(o, .inr (3, [.ref q1, .ref q2, .ref q3, .ref q4])), (q3, .inr (2, [.ref q5, .int tc, .int tl, .int te])), (qL, .inl (cL, 1, .inr (.inl lf)))] s.heap.size = A at hD hE ⊢
  have hA : ∀ q : Nat, s.heap.size ≤ q → A q := fun q h => by rw [← hAe]; exact Or.inr h
  have hS : va_S A s.heap s.heap [] := va_S.rf
  have hl := lv_entry ([.ref o, .int i0, .ref qL]) (n := 4) (Nat.le_of_ble_eq_true rfl)
  rw [lg_entry_eq]
  generalize (lg_sl ([.ref o, .int i0, .ref qL]) ++ List.replicate (4 - (lg_sl ([.ref o, .int i0, .ref qL])).length) Slot.unset).toArray = ls at hl ⊢
  have hl : lv_has ls 4 [(0, .ref o), (1, .int i0), (2, .ref qL)] := hl
  refine lv_aload_n hx hb dL_below_0 rfl (lv_at hl 2 rfl) ?_
  refine lv_iconst (v := 0) hx hb dL_below_1 (by decide) ?_
  refine lv_aload_n hx hb dL_below_2 rfl (lv_at hl 0 rfl) ?_
  refine lv_iload_n hx hb dL_below_3 rfl (lv_at hl 1 rfl) ?_
  refine ny_x hS (va_free (wc := [(o, .inr (3, [.ref q1, .ref q2, .ref q3, .ref q4])), (q3, .inr (2, [.ref q5, .int tc, .int tl, .int te]))]) hD hS hA [0, 1] rfl) (vx_runV (As := [.int i0]) (rest := [.int 0, .ref qL]) ⟨hx, hb, hml, hown, hts⟩ (c_X1_below_noP l D o q1 q2 q3 q4 q5 s.heap.size tc tl te i0 (by assumption) (by assumption)) (cwV 1 hts gL_below_X1_below rfl rfl rfl (by decide +kernel) ⟨Nat.le_of_ble_eq_true rfl, Nat.le_of_ble_eq_true rfl⟩) ⟨ny_blind, va_recv hK hP (ci := 3) (q0 := 0) rfl rfl, fun U hU hW => ⟨rfl, ny_preU hE hP hK hD hS hA [0, 1] rfl (by decide) rfl [] rfl U hU hW⟩⟩ rfl rfl hl.1 rfl (lv_room (Nat.le_of_ble_eq_true rfl)) dL_below_4 ⟨Nat.le_of_ble_eq_true rfl, Nat.le_of_ble_eq_true rfl⟩) (fun ce q9 H locs hz9 hk9 hS hc9 hv9 hn9 => ?_)
  have hP : va_P D vwCl [(o, .inr (3, [.ref q1, .ref q2, .ref q3, .ref q4])), (q3, .inr (2, [.ref q5, .int tc, .int tl, .int te])), (qL, .inl (cL, 1, .inr (.inl lf)))] H := ny_keep hP hk9
  refine vx_catch (own := RL) (name := ny_IO) (E := ny_IO) hown (tableOf []) ⟨0, 9, 12, 13⟩ (tableOf []) (htab.trans rfl) (fun z hz => absurd hz List.not_mem_nil) (by decide) (by decide) (hts (.classLink RL 13 "java/lang/IndexOutOfBoundsException") (List.mem_of_getElem? (i := 1) rfl)) (va_Nw.use rfl (hE.2.2.2.2.1 _ (List.mem_of_getElem? (i := 0) rfl))) hc9 hv9 hn9 ?_
  refine W.eq (g2 := F0 m 12 ls [.ref q9]) rfl ?_
  refine lv_astore_n (lv' := [(3, .ref q9), (0, .ref o), (1, .int i0), (2, .ref qL)]) hx hb dL_below_12 rfl hl (by decide) rfl (fun ls hl => ?_)
  refine lv_iconst (v := 1) hx hb dL_below_13 (by decide) ?_
  have hP9 := hP.sub (ws' := [(o, .inr (3, [.ref q1, .ref q2, .ref q3, .ref q4])), (q3, .inr (2, [.ref q5, .int tc, .int tl, .int te])), (qL, .inl (cL, 1, .inr (.inl lf)))]) [0, 1, 2] rfl
  have hD9 := hD.sub (ws' := [(o, .inr (3, [.ref q1, .ref q2, .ref q3, .ref q4])), (q3, .inr (2, [.ref q5, .int tc, .int tl, .int te])), (qL, .inl (cL, 1, .inr (.inl lf)))]) [0, 1, 2] (by decide) rfl
  refine W.widen (k := 1) (n := 6) (Nat.le_of_ble_eq_true rfl) (Nat.le_of_ble_eq_true rfl) ?_
  exact W.iret (v := 1) hx hb hr (fun t ht hW => ⟨⟨1, (), rfl, (rfl), by rw [ht]; exact hP9, va_K.moved hW.alike hK, hD9⟩, hS.F ht⟩) hS.2.2 dL_below_14

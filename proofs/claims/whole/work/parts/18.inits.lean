/-! CONSTRUCTORS. -/
section
variable {p : Program} {l : Launch} {e : Env} {R : Room} {s : State} {m : MethodId} {args : Array Value} {below : List Frame} {meth : Method} {c : Code} {H : Heap} {locs : List Loc} {cells slots : Nat} {Q : State → Prop}
variable {D : va_G} {ty : List (ClassId × FieldType)} {A : Nat → Prop} {ws wc wr : va_W} {mc ms pc : Nat} {ls : Array Slot} {st0 rest : List Value} {a : Array Value}
theorem ny_vK {S : Type} {post : S → Prop} {w1 : S → va_W} {tyc : S → List (ClassId × FieldType)} (hP : va_P D vwCl ws H) (hD : va_D A ws) (hS : va_S A s.heap H locs) (hA : ∀ q, s.heap.size ≤ q → A q) (isC isR : List Nat) (hC : isC.map (fun i => ws[i]?) = wc.map some) (hR : isR.map (fun i => ws[i]?) = wr.map some) (hn : va_nd isR = true) (hdis : ∀ i ∈ isR, i ∉ isC)
    (hr : va_Run p l e R s m args below meth c H locs cells slots mc ms (F0 m pc ls st0) rest (va_Qv post (fun u t => ny_at D (tyc u) (va_A wc H.size) (w1 u) t) (va_A wc H.size) a) (va_A wc H.size))
    (kk : ∀ (u : S) (H1 : Heap) (locs1 : List Loc), va_K D vwCl (tyc u) s → post u → va_P D vwCl (wr ++ w1 u) H1 → va_D A (wr ++ w1 u) → va_S A s.heap H1 locs1 → W p l e R s m args below meth c H1 locs1 (cells + mc) (slots + ms) Q (F0 m (pc + 3) ls rest)) : W p l e R s m args below meth c H locs cells slots Q (F0 m pc ls st0) := by
  have hF := va_free hD hS hA isC hC
  refine va_callv hr hS (fun q _ h => hF q h) hF (fun u t H1 locs1 ht hvm hw hB hz1 hk1 hS1 => ?_)
  obtain ⟨hP1, hK1, hD1⟩ := hB
  rw [ht] at hP1
  obtain ⟨hP2, hD2⟩ := va_join hP hD isC isR hC hR hn hdis hk1 hF hP1 hD1
  exact kk u H1 locs1 (va_K.moved hvm.symm hK1) hw hP2 hD2 hS1
end
/-- the class of int rows is one -/
theorem ny_oneI {D : va_G} {cl : List vw_C} {ty : List (ClassId × FieldType)} {s : State} (hK : va_K D cl ty s) (i j : Nat) {c1 c2 : ClassId} (h1 : ty[i]? = some (c1, .int)) (h2 : ty[j]? = some (c2, .int)) : c2 = c1 := by
  have a1 : va_RA s c1 .int := (hK.2 i _ h1).2
  have a2 : va_RA s c2 .int := (hK.2 j _ h2).2
  have b1 : s.vm.findClass ("[" ++ FieldType.int.toString) = some c1 := a1
  have b2 : s.vm.findClass ("[" ++ FieldType.int.toString) = some c2 := a2
  exact Option.some.inj (b2.symm.trans b1)
theorem ny_oneZ {D : va_G} {cl : List vw_C} {ty : List (ClassId × FieldType)} {s : State} (hK : va_K D cl ty s) (i j : Nat) {c1 c2 : ClassId} (h1 : ty[i]? = some (c1, .boolean)) (h2 : ty[j]? = some (c2, .boolean)) : c2 = c1 := by
  have a1 : va_RA s c1 .boolean := (hK.2 i _ h1).2
  have a2 : va_RA s c2 .boolean := (hK.2 j _ h2).2
  have b1 : s.vm.findClass ("[" ++ FieldType.boolean.toString) = some c1 := a1
  have b2 : s.vm.findClass ("[" ++ FieldType.boolean.toString) = some c2 := a2
  exact Option.some.inj (b2.symm.trans b1)
theorem in_X0_init_X0 : ∀ w ∈ wsX00, w ∈ wsX0_init := (fun _ h => List.mem_cons_of_mem _ (List.mem_append_right _ h))
set_option maxHeartbeats 4000000 in
set_option maxRecDepth 100000 in
theorem c_X0_init (l : Launch) (D : va_G) (qe : Nat) (sz : Nat) : Met l yX0_init wsX0_init ({ frames := 1, cells := 1, slots := 7, locals := 20 }) (va_Pc [.ref qe] (ny_pre D [] [(qe, .inr (2, [.null, .int 0, .int 0, .int 0]))] sz)) (va_Qv (fun (u : Nat × ClassId) => True) (fun (u : Nat × ClassId) t => ny_at D [(u.2, .int)] (va_A [(qe, .inr (2, [.null, .int 0, .int 0, .int 0]))] sz) [(qe, .inr (2, [.ref u.1, .int 0, .int 0, .int 0])), (u.1, .inl (u.2, 7, .inl (fun _ => 0)))] t) (va_A [(qe, .inr (2, [.null, .int 0, .int 0, .int 0]))] sz)) 1 7 (va_A [(qe, .inr (2, [.null, .int 0, .int 0, .int 0]))] sz) := by
  refine Met.ofW (cc := cX0_init) (maxL := 1) (ret := none) (by decide) rfl ?_
  intro p e s m args below meth c s₁ B hml hv
  obtain ⟨rfl, hsz, hP, hK, hD0, hE⟩ := hv
  have hx := B.exec
  have hb := B.bytes
  have hr := B.returns
  have hts := atoms_spec (ws := wsX0_init) B.pre
  have hown : s.vm.findClass RX0 = some m.cls := findClass_of_methodNamed B.named
  have hlocks := B.notSynchronized
  have hin : meth.name = "<init>" := (name_of_methodNamed B.named B.method).1
  subst hsz
  have hD := hD0.self (sz := s.heap.size)
  generalize hAe : va_A [(qe, .inr (2, [.null, .int 0, .int 0, .int 0]))] s.heap.size = A at hD hE ⊢
  have hA : ∀ q : Nat, s.heap.size ≤ q → A q := fun q h => by rw [← hAe]; exact Or.inr h
  have hS : va_S A s.heap s.heap [] := va_S.rf
  have hl := lv_entry ([.ref qe]) (n := 1) (Nat.le_of_ble_eq_true rfl)
  rw [lg_entry_eq]
  generalize (lg_sl ([.ref qe]) ++ List.replicate (1 - (lg_sl ([.ref qe])).length) Slot.unset).toArray = ls at hl ⊢
  have hl : lv_has ls 1 [(0, .ref qe)] := hl
  refine lv_aload_n hx hb dX0_init_0 rfl (lv_at hl 0 rfl) ?_
  refine W.objInit hx hb hown (hts (.methodLink RX0 3 objectInit) (List.mem_of_getElem? (i := 1) rfl)) (hts (.instanceMethod objectInit) (List.mem_of_getElem? (i := 2) rfl)) (hts (.code objectInit ⟨#[0xb1]⟩ 1 none) (List.mem_of_getElem? (i := 3) rfl)) rfl (by rw [hml]; exact hl.1) rfl dX0_init_1 (Nat.le_of_ble_eq_true rfl) (Nat.le_of_ble_eq_true rfl) ?_
  refine W.eq (g2 := F0 m 4 ls []) rfl ?_
  refine lv_aload_n hx hb dX0_init_4 rfl (lv_at hl 0 rfl) ?_
  refine lv_bipush (v := 7) hx hb dX0_init_5 (by decide) ?_
  refine va_newa (atype := .int) (ty := .int) (N' := 7) (a0 := (7, .inl (fun _ => 0))) hx hb (hts (.arrayClass .int) (List.mem_of_getElem? (i := 4) rfl)) rfl hK hP hD hS hA (fun cA => rfl) (by decide) (by decide) (show 7 * 4 ≤ 536870912 by omega) (Nat.le_of_ble_eq_true rfl) (Nat.le_of_ble_eq_true rfl) dX0_init_7 (fun ny_a7 ny_c7 H hK hP hD hS => ?_)
  have hK : va_K D vwCl [(ny_c7, .int)] s := hK
  have hP : va_P D vwCl [(qe, .inr (2, [.null, .int 0, .int 0, .int 0])), (ny_a7, .inl (ny_c7, 7, .inl (fun _ => 0)))] H := hP
  have hD : va_D A [(qe, .inr (2, [.null, .int 0, .int 0, .int 0])), (ny_a7, .inl (ny_c7, 7, .inl (fun _ => 0)))] := hD
  refine va_putF (D := D) (ci := 2) (v := .ref ny_a7) (ty := .array .int) (C := RX0) (T := TX0) (N := 4) hx hb hts in_X0_init_X0 tyX0 tyX0_ok nmX0 hown hK hP hD hS 0 rfl rfl 0 (by decide) (hts (.fieldLink RX0 9 "Nearestclock$Euclid" "row" "[I") (List.mem_of_getElem? (i := 5) rfl)) (fun _ h9 => h9) rfl hin rfl (by decide +kernel) rfl rfl (Nat.le_of_ble_eq_true rfl) dX0_init_9 (fun H locs hP hD hS => ?_)
  have hP : va_P D vwCl [(qe, .inr (2, [.ref ny_a7, .int 0, .int 0, .int 0])), (ny_a7, .inl (ny_c7, 7, .inl (fun _ => 0)))] H := hP
  have hD : va_D A [(qe, .inr (2, [.ref ny_a7, .int 0, .int 0, .int 0])), (ny_a7, .inl (ny_c7, 7, .inl (fun _ => 0)))] := hD
  have hP9 := hP.sub (ws' := [(qe, .inr (2, [.ref ny_a7, .int 0, .int 0, .int 0])), (ny_a7, .inl (ny_c7, 7, .inl (fun _ => 0)))]) [0, 1] rfl
  have hD9 := hD.sub (ws' := [(qe, .inr (2, [.ref ny_a7, .int 0, .int 0, .int 0])), (ny_a7, .inl (ny_c7, 7, .inl (fun _ => 0)))]) [0, 1] (by decide) rfl
  have hK := hK.sub (tys' := [(ny_c7, .int)]) [0] rfl
  refine W.widen (k := 1) (n := 7) (Nat.le_of_ble_eq_true rfl) (Nat.le_of_ble_eq_true rfl) ?_
  exact W.vret hx hb hr (fun t ht hW => ⟨⟨(ny_a7, ny_c7), rfl, (trivial), by rw [ht]; exact hP9, va_K.moved hW.alike hK, hD9⟩, hS.F ht⟩) hS.2.2 dX0_init_12
theorem in_X1_init_X0 : ∀ w ∈ wsX00, w ∈ wsX1_init := (fun _ h => List.mem_cons_of_mem _ (List.mem_append_right _ h))
theorem in_X1_init_X1 : ∀ w ∈ wsX10, w ∈ wsX1_init := (fun _ h => List.mem_cons_of_mem _ (List.mem_append_left _ (List.mem_append_right _ h)))
set_option maxHeartbeats 4000000 in
set_option maxRecDepth 100000 in
theorem c_X1_init (l : Launch) (D : va_G) (o : Nat) (sz : Nat) : Met l yX1_init wsX1_init ({ frames := 2, cells := 6, slots := 46, locals := 40 }) (va_Pc [.ref o] (ny_pre D [] [(o, .inr (3, [.null, .null, .null, .null]))] sz)) (va_Qv (fun (u : Nat × Nat × Nat × Nat × Nat × Nat × ClassId × ClassId) => True) (fun (u : Nat × Nat × Nat × Nat × Nat × Nat × ClassId × ClassId) t => ny_at D [(u.2.2.2.2.2.2.1, .int), (u.2.2.2.2.2.2.2, .boolean)] (va_A [(o, .inr (3, [.null, .null, .null, .null]))] sz) [(o, .inr (3, [.ref u.1, .ref u.2.1, .ref u.2.2.1, .ref u.2.2.2.2.1])), (u.1, .inl (u.2.2.2.2.2.2.1, 12, .inl (fun _ => 0))), (u.2.1, .inl (u.2.2.2.2.2.2.2, 12, .inl (fun _ => 0))), (u.2.2.1, .inr (2, [.ref u.2.2.2.1, .int 0, .int 0, .int 0])), (u.2.2.2.1, .inl (u.2.2.2.2.2.2.1, 7, .inl (fun _ => 0))), (u.2.2.2.2.1, .inr (2, [.ref u.2.2.2.2.2.1, .int 0, .int 0, .int 0])), (u.2.2.2.2.2.1, .inl (u.2.2.2.2.2.2.1, 7, .inl (fun _ => 0)))] t) (va_A [(o, .inr (3, [.null, .null, .null, .null]))] sz)) 6 46 (va_A [(o, .inr (3, [.null, .null, .null, .null]))] sz) := by
  refine Met.ofW (cc := cX1_init) (maxL := 1) (ret := none) (by decide) rfl ?_
  intro p e s m args below meth c s₁ B hml hv
  obtain ⟨rfl, hsz, hP, hK, hD0, hE⟩ := hv
  have hx := B.exec
  have hb := B.bytes
  have hr := B.returns
  have hts := atoms_spec (ws := wsX1_init) B.pre
  have hown : s.vm.findClass RX1 = some m.cls := findClass_of_methodNamed B.named
  have hlocks := B.notSynchronized
  have hin : meth.name = "<init>" := (name_of_methodNamed B.named B.method).1
  subst hsz
  have hD := hD0.self (sz := s.heap.size)
  generalize hAe : va_A [(o, .inr (3, [.null, .null, .null, .null]))] s.heap.size = A at hD hE ⊢
  have hA : ∀ q : Nat, s.heap.size ≤ q → A q := fun q h => by rw [← hAe]; exact Or.inr h
  have hS : va_S A s.heap s.heap [] := va_S.rf
  have hl := lv_entry ([.ref o]) (n := 1) (Nat.le_of_ble_eq_true rfl)
  rw [lg_entry_eq]
  generalize (lg_sl ([.ref o]) ++ List.replicate (1 - (lg_sl ([.ref o])).length) Slot.unset).toArray = ls at hl ⊢
  have hl : lv_has ls 1 [(0, .ref o)] := hl
  refine lv_aload_n hx hb dX1_init_0 rfl (lv_at hl 0 rfl) ?_
  refine W.objInit hx hb hown (hts (.methodLink RX1 3 objectInit) (List.mem_of_getElem? (i := 1) rfl)) (hts (.instanceMethod objectInit) (List.mem_of_getElem? (i := 2) rfl)) (hts (.code objectInit ⟨#[0xb1]⟩ 1 none) (List.mem_of_getElem? (i := 3) rfl)) rfl (by rw [hml]; exact hl.1) rfl dX1_init_1 (Nat.le_of_ble_eq_true rfl) (Nat.le_of_ble_eq_true rfl) ?_
  refine W.eq (g2 := F0 m 4 ls []) rfl ?_
  refine lv_aload_n hx hb dX1_init_4 rfl (lv_at hl 0 rfl) ?_
  refine lv_bipush (v := 12) hx hb dX1_init_5 (by decide) ?_
  refine va_newa (atype := .int) (ty := .int) (N' := 12) (a0 := (12, .inl (fun _ => 0))) hx hb (hts (.arrayClass .int) (List.mem_of_getElem? (i := 4) rfl)) rfl hK hP hD hS hA (fun cA => rfl) (by decide) (by decide) (show 12 * 4 ≤ 536870912 by omega) (Nat.le_of_ble_eq_true rfl) (Nat.le_of_ble_eq_true rfl) dX1_init_7 (fun ny_a7 ny_c7 H hK hP hD hS => ?_)
  have hK : va_K D vwCl [(ny_c7, .int)] s := hK
  have hP : va_P D vwCl [(o, .inr (3, [.null, .null, .null, .null])), (ny_a7, .inl (ny_c7, 12, .inl (fun _ => 0)))] H := hP
  have hD : va_D A [(o, .inr (3, [.null, .null, .null, .null])), (ny_a7, .inl (ny_c7, 12, .inl (fun _ => 0)))] := hD
  refine va_putF (D := D) (ci := 3) (v := .ref ny_a7) (ty := .array .int) (C := RX1) (T := TX1) (N := 4) hx hb hts in_X1_init_X1 tyX1 tyX1_ok nmX1 hown hK hP hD hS 0 rfl rfl 0 (by decide) (hts (.fieldLink RX1 9 "Nearestclock" "held" "[I") (List.mem_of_getElem? (i := 5) rfl)) (fun _ h9 => h9) rfl hin rfl (by decide +kernel) rfl rfl (Nat.le_of_ble_eq_true rfl) dX1_init_9 (fun H locs hP hD hS => ?_)
  have hP : va_P D vwCl [(o, .inr (3, [.ref ny_a7, .null, .null, .null])), (ny_a7, .inl (ny_c7, 12, .inl (fun _ => 0)))] H := hP
  have hD : va_D A [(o, .inr (3, [.ref ny_a7, .null, .null, .null])), (ny_a7, .inl (ny_c7, 12, .inl (fun _ => 0)))] := hD
  refine lv_aload_n hx hb dX1_init_12 rfl (lv_at hl 0 rfl) ?_
  refine lv_bipush (v := 12) hx hb dX1_init_13 (by decide) ?_
  refine va_newa (atype := .boolean) (ty := .boolean) (N' := 12) (a0 := (12, .inl (fun _ => 0))) hx hb (hts (.arrayClass .boolean) (List.mem_of_getElem? (i := 6) rfl)) rfl hK hP hD hS hA (fun cA => rfl) (by decide) (by decide) (show 12 * 1 ≤ 536870912 by omega) (Nat.le_of_ble_eq_true rfl) (Nat.le_of_ble_eq_true rfl) dX1_init_15 (fun ny_a15 ny_c15 H hK hP hD hS => ?_)
  have hK : va_K D vwCl [(ny_c7, .int), (ny_c15, .boolean)] s := hK
  have hP : va_P D vwCl [(o, .inr (3, [.ref ny_a7, .null, .null, .null])), (ny_a7, .inl (ny_c7, 12, .inl (fun _ => 0))), (ny_a15, .inl (ny_c15, 12, .inl (fun _ => 0)))] H := hP
  have hD : va_D A [(o, .inr (3, [.ref ny_a7, .null, .null, .null])), (ny_a7, .inl (ny_c7, 12, .inl (fun _ => 0))), (ny_a15, .inl (ny_c15, 12, .inl (fun _ => 0)))] := hD
  refine va_putF (D := D) (ci := 3) (v := .ref ny_a15) (ty := .array .boolean) (C := RX1) (T := TX1) (N := 4) hx hb hts in_X1_init_X1 tyX1 tyX1_ok nmX1 hown hK hP hD hS 0 rfl rfl 1 (by decide) (hts (.fieldLink RX1 13 "Nearestclock" "isBelow" "[Z") (List.mem_of_getElem? (i := 7) rfl)) (fun _ h9 => h9) rfl hin rfl (by decide +kernel) rfl rfl (Nat.le_of_ble_eq_true rfl) dX1_init_17 (fun H locs hP hD hS => ?_)
  have hP : va_P D vwCl [(o, .inr (3, [.ref ny_a7, .ref ny_a15, .null, .null])), (ny_a7, .inl (ny_c7, 12, .inl (fun _ => 0))), (ny_a15, .inl (ny_c15, 12, .inl (fun _ => 0)))] H := hP
  have hD : va_D A [(o, .inr (3, [.ref ny_a7, .ref ny_a15, .null, .null])), (ny_a7, .inl (ny_c7, 12, .inl (fun _ => 0))), (ny_a15, .inl (ny_c15, 12, .inl (fun _ => 0)))] := hD
  refine lv_aload_n hx hb dX1_init_20 rfl (lv_at hl 0 rfl) ?_
  refine va_new (ci := 2) (fs := [.null, .int 0, .int 0, .int 0]) (C := RX0) (T := TX0) (N := 4) hx hb hts in_X1_init_X0 tyX0 tyX0_ok hown (hts (.classLink RX1 17 RX0) (List.mem_of_getElem? (i := 8) rfl)) (hts (.instantiable RX0 4) (List.mem_of_getElem? (i := 9) rfl)) (hts (.initialized RX0) (List.mem_of_getElem? (i := 10) rfl)) hK hP hD hS hA rfl (fun j hj => by rcases (show j = 0 ∨ j = 1 ∨ j = 2 ∨ j = 3 by omega) with rfl | rfl | rfl | rfl <;> rfl) (Nat.le_of_ble_eq_true rfl) (Nat.le_of_ble_eq_true rfl) dX1_init_21 (fun ny_o21 H hP hD hS => ?_)
  have hP : va_P D vwCl [(o, .inr (3, [.ref ny_a7, .ref ny_a15, .null, .null])), (ny_a7, .inl (ny_c7, 12, .inl (fun _ => 0))), (ny_a15, .inl (ny_c15, 12, .inl (fun _ => 0))), (ny_o21, .inr (2, [.null, .int 0, .int 0, .int 0]))] H := hP
  have hD : va_D A [(o, .inr (3, [.ref ny_a7, .ref ny_a15, .null, .null])), (ny_a7, .inl (ny_c7, 12, .inl (fun _ => 0))), (ny_a15, .inl (ny_c15, 12, .inl (fun _ => 0))), (ny_o21, .inr (2, [.null, .int 0, .int 0, .int 0]))] := hD
  refine lv_dup hx hb dX1_init_24 rfl ?_
  refine ny_vK (wc := [(ny_o21, .inr (2, [.null, .int 0, .int 0, .int 0]))]) (wr := [(o, .inr (3, [.ref ny_a7, .ref ny_a15, .null, .null])), (ny_a7, .inl (ny_c7, 12, .inl (fun _ => 0))), (ny_a15, .inl (ny_c15, 12, .inl (fun _ => 0)))]) hP hD hS hA [3] [0, 1, 2] rfl rfl (by decide) (by decide) (va_runIN (As := []) (rest := [.ref ny_o21, .ref o]) ⟨hx, hb, hml, hown, hts⟩ (c_X0_init l D ny_o21 H.size) ⟨va_cnB 0 hts gX1_init_X0_init_n19 rfl rfl rfl (hE.2.2.2.1 (RX1, 19, yX0_init) (List.mem_of_getElem? (i := 3) rfl)) (hts (.initialized RX0) (List.mem_of_getElem? (i := 10) rfl)) (by decide +kernel) ⟨Nat.le_of_ble_eq_true rfl, Nat.le_of_ble_eq_true rfl⟩, rfl, (hts (.instanceMethod yX0_init) (List.mem_of_getElem? (i := 13) rfl))⟩ ⟨ny_blind, fun U hU hW => ⟨rfl, ny_preU hE hP hK hD hS hA [3] rfl (by decide) rfl [] rfl U hU hW⟩⟩ rfl rfl hl.1 rfl (lv_room (Nat.le_of_ble_eq_true rfl)) dX1_init_25 ⟨Nat.le_of_ble_eq_true rfl, Nat.le_of_ble_eq_true rfl⟩) (fun u H locs hK1 hw_25 hP hD hS => ?_)
  obtain ⟨ur_25, uc_25⟩ := u
  have hK : va_K D vwCl [(ny_c7, .int), (ny_c15, .boolean), (uc_25, .int)] s := hK.app hK1
  have hP : va_P D vwCl [(o, .inr (3, [.ref ny_a7, .ref ny_a15, .null, .null])), (ny_a7, .inl (ny_c7, 12, .inl (fun _ => 0))), (ny_a15, .inl (ny_c15, 12, .inl (fun _ => 0))), (ny_o21, .inr (2, [.ref ur_25, .int 0, .int 0, .int 0])), (ur_25, .inl (uc_25, 7, .inl (fun _ => 0)))] H := hP
  have hD : va_D A [(o, .inr (3, [.ref ny_a7, .ref ny_a15, .null, .null])), (ny_a7, .inl (ny_c7, 12, .inl (fun _ => 0))), (ny_a15, .inl (ny_c15, 12, .inl (fun _ => 0))), (ny_o21, .inr (2, [.ref ur_25, .int 0, .int 0, .int 0])), (ur_25, .inl (uc_25, 7, .inl (fun _ => 0)))] := hD
  refine va_putF (D := D) (ci := 3) (v := .ref ny_o21) (ty := .object "Nearestclock$Euclid") (C := RX1) (T := TX1) (N := 4) hx hb hts in_X1_init_X1 tyX1 tyX1_ok nmX1 hown hK hP hD hS 0 rfl rfl 2 (by decide) (hts (.fieldLink RX1 20 "Nearestclock" "told" "LNearestclock$Euclid;") (List.mem_of_getElem? (i := 11) rfl)) (fun _ h9 => h9) rfl hin rfl (by decide +kernel) rfl rfl (Nat.le_of_ble_eq_true rfl) dX1_init_28 (fun H locs hP hD hS => ?_)
  have hP : va_P D vwCl [(o, .inr (3, [.ref ny_a7, .ref ny_a15, .ref ny_o21, .null])), (ny_a7, .inl (ny_c7, 12, .inl (fun _ => 0))), (ny_a15, .inl (ny_c15, 12, .inl (fun _ => 0))), (ny_o21, .inr (2, [.ref ur_25, .int 0, .int 0, .int 0])), (ur_25, .inl (uc_25, 7, .inl (fun _ => 0)))] H := hP
  have hD : va_D A [(o, .inr (3, [.ref ny_a7, .ref ny_a15, .ref ny_o21, .null])), (ny_a7, .inl (ny_c7, 12, .inl (fun _ => 0))), (ny_a15, .inl (ny_c15, 12, .inl (fun _ => 0))), (ny_o21, .inr (2, [.ref ur_25, .int 0, .int 0, .int 0])), (ur_25, .inl (uc_25, 7, .inl (fun _ => 0)))] := hD
  refine lv_aload_n hx hb dX1_init_31 rfl (lv_at hl 0 rfl) ?_
  refine va_new (ci := 2) (fs := [.null, .int 0, .int 0, .int 0]) (C := RX0) (T := TX0) (N := 4) hx hb hts in_X1_init_X0 tyX0 tyX0_ok hown (hts (.classLink RX1 17 RX0) (List.mem_of_getElem? (i := 8) rfl)) (hts (.instantiable RX0 4) (List.mem_of_getElem? (i := 9) rfl)) (hts (.initialized RX0) (List.mem_of_getElem? (i := 10) rfl)) hK hP hD hS hA rfl (fun j hj => by rcases (show j = 0 ∨ j = 1 ∨ j = 2 ∨ j = 3 by omega) with rfl | rfl | rfl | rfl <;> rfl) (Nat.le_of_ble_eq_true rfl) (Nat.le_of_ble_eq_true rfl) dX1_init_32 (fun ny_o32 H hP hD hS => ?_)
  have hP : va_P D vwCl [(o, .inr (3, [.ref ny_a7, .ref ny_a15, .ref ny_o21, .null])), (ny_a7, .inl (ny_c7, 12, .inl (fun _ => 0))), (ny_a15, .inl (ny_c15, 12, .inl (fun _ => 0))), (ny_o21, .inr (2, [.ref ur_25, .int 0, .int 0, .int 0])), (ur_25, .inl (uc_25, 7, .inl (fun _ => 0))), (ny_o32, .inr (2, [.null, .int 0, .int 0, .int 0]))] H := hP
  have hD : va_D A [(o, .inr (3, [.ref ny_a7, .ref ny_a15, .ref ny_o21, .null])), (ny_a7, .inl (ny_c7, 12, .inl (fun _ => 0))), (ny_a15, .inl (ny_c15, 12, .inl (fun _ => 0))), (ny_o21, .inr (2, [.ref ur_25, .int 0, .int 0, .int 0])), (ur_25, .inl (uc_25, 7, .inl (fun _ => 0))), (ny_o32, .inr (2, [.null, .int 0, .int 0, .int 0]))] := hD
  refine lv_dup hx hb dX1_init_35 rfl ?_
  refine ny_vK (wc := [(ny_o32, .inr (2, [.null, .int 0, .int 0, .int 0]))]) (wr := [(o, .inr (3, [.ref ny_a7, .ref ny_a15, .ref ny_o21, .null])), (ny_a7, .inl (ny_c7, 12, .inl (fun _ => 0))), (ny_a15, .inl (ny_c15, 12, .inl (fun _ => 0))), (ny_o21, .inr (2, [.ref ur_25, .int 0, .int 0, .int 0])), (ur_25, .inl (uc_25, 7, .inl (fun _ => 0)))]) hP hD hS hA [5] [0, 1, 2, 3, 4] rfl rfl (by decide) (by decide) (va_runIN (As := []) (rest := [.ref ny_o32, .ref o]) ⟨hx, hb, hml, hown, hts⟩ (c_X0_init l D ny_o32 H.size) ⟨va_cnB 0 hts gX1_init_X0_init_n19 rfl rfl rfl (hE.2.2.2.1 (RX1, 19, yX0_init) (List.mem_of_getElem? (i := 3) rfl)) (hts (.initialized RX0) (List.mem_of_getElem? (i := 10) rfl)) (by decide +kernel) ⟨Nat.le_of_ble_eq_true rfl, Nat.le_of_ble_eq_true rfl⟩, rfl, (hts (.instanceMethod yX0_init) (List.mem_of_getElem? (i := 13) rfl))⟩ ⟨ny_blind, fun U hU hW => ⟨rfl, ny_preU hE hP hK hD hS hA [5] rfl (by decide) rfl [] rfl U hU hW⟩⟩ rfl rfl hl.1 rfl (lv_room (Nat.le_of_ble_eq_true rfl)) dX1_init_36 ⟨Nat.le_of_ble_eq_true rfl, Nat.le_of_ble_eq_true rfl⟩) (fun u H locs hK1 hw_36 hP hD hS => ?_)
  obtain ⟨ur_36, uc_36⟩ := u
  have hK : va_K D vwCl [(ny_c7, .int), (ny_c15, .boolean), (uc_25, .int), (uc_36, .int)] s := hK.app hK1
  have hP : va_P D vwCl [(o, .inr (3, [.ref ny_a7, .ref ny_a15, .ref ny_o21, .null])), (ny_a7, .inl (ny_c7, 12, .inl (fun _ => 0))), (ny_a15, .inl (ny_c15, 12, .inl (fun _ => 0))), (ny_o21, .inr (2, [.ref ur_25, .int 0, .int 0, .int 0])), (ur_25, .inl (uc_25, 7, .inl (fun _ => 0))), (ny_o32, .inr (2, [.ref ur_36, .int 0, .int 0, .int 0])), (ur_36, .inl (uc_36, 7, .inl (fun _ => 0)))] H := hP
  have hD : va_D A [(o, .inr (3, [.ref ny_a7, .ref ny_a15, .ref ny_o21, .null])), (ny_a7, .inl (ny_c7, 12, .inl (fun _ => 0))), (ny_a15, .inl (ny_c15, 12, .inl (fun _ => 0))), (ny_o21, .inr (2, [.ref ur_25, .int 0, .int 0, .int 0])), (ur_25, .inl (uc_25, 7, .inl (fun _ => 0))), (ny_o32, .inr (2, [.ref ur_36, .int 0, .int 0, .int 0])), (ur_36, .inl (uc_36, 7, .inl (fun _ => 0)))] := hD
  refine va_putF (D := D) (ci := 3) (v := .ref ny_o32) (ty := .object "Nearestclock$Euclid") (C := RX1) (T := TX1) (N := 4) hx hb hts in_X1_init_X1 tyX1 tyX1_ok nmX1 hown hK hP hD hS 0 rfl rfl 3 (by decide) (hts (.fieldLink RX1 24 "Nearestclock" "spare" "LNearestclock$Euclid;") (List.mem_of_getElem? (i := 12) rfl)) (fun _ h9 => h9) rfl hin rfl (by decide +kernel) rfl rfl (Nat.le_of_ble_eq_true rfl) dX1_init_39 (fun H locs hP hD hS => ?_)
  have hP : va_P D vwCl [(o, .inr (3, [.ref ny_a7, .ref ny_a15, .ref ny_o21, .ref ny_o32])), (ny_a7, .inl (ny_c7, 12, .inl (fun _ => 0))), (ny_a15, .inl (ny_c15, 12, .inl (fun _ => 0))), (ny_o21, .inr (2, [.ref ur_25, .int 0, .int 0, .int 0])), (ur_25, .inl (uc_25, 7, .inl (fun _ => 0))), (ny_o32, .inr (2, [.ref ur_36, .int 0, .int 0, .int 0])), (ur_36, .inl (uc_36, 7, .inl (fun _ => 0)))] H := hP
  have hD : va_D A [(o, .inr (3, [.ref ny_a7, .ref ny_a15, .ref ny_o21, .ref ny_o32])), (ny_a7, .inl (ny_c7, 12, .inl (fun _ => 0))), (ny_a15, .inl (ny_c15, 12, .inl (fun _ => 0))), (ny_o21, .inr (2, [.ref ur_25, .int 0, .int 0, .int 0])), (ur_25, .inl (uc_25, 7, .inl (fun _ => 0))), (ny_o32, .inr (2, [.ref ur_36, .int 0, .int 0, .int 0])), (ur_36, .inl (uc_36, 7, .inl (fun _ => 0)))] := hD
  have e_uc_25 : ny_c7 = uc_25 := (ny_oneI hK 0 2 rfl rfl).symm
  subst e_uc_25
  have e_uc_36 : ny_c7 = uc_36 := (ny_oneI hK 0 3 rfl rfl).symm
  subst e_uc_36
  have hP9 := hP.sub (ws' := [(o, .inr (3, [.ref ny_a7, .ref ny_a15, .ref ny_o21, .ref ny_o32])), (ny_a7, .inl (ny_c7, 12, .inl (fun _ => 0))), (ny_a15, .inl (ny_c15, 12, .inl (fun _ => 0))), (ny_o21, .inr (2, [.ref ur_25, .int 0, .int 0, .int 0])), (ur_25, .inl (ny_c7, 7, .inl (fun _ => 0))), (ny_o32, .inr (2, [.ref ur_36, .int 0, .int 0, .int 0])), (ur_36, .inl (ny_c7, 7, .inl (fun _ => 0)))]) [0, 1, 2, 3, 4, 5, 6] rfl
  have hD9 := hD.sub (ws' := [(o, .inr (3, [.ref ny_a7, .ref ny_a15, .ref ny_o21, .ref ny_o32])), (ny_a7, .inl (ny_c7, 12, .inl (fun _ => 0))), (ny_a15, .inl (ny_c15, 12, .inl (fun _ => 0))), (ny_o21, .inr (2, [.ref ur_25, .int 0, .int 0, .int 0])), (ur_25, .inl (ny_c7, 7, .inl (fun _ => 0))), (ny_o32, .inr (2, [.ref ur_36, .int 0, .int 0, .int 0])), (ur_36, .inl (ny_c7, 7, .inl (fun _ => 0)))]) [0, 1, 2, 3, 4, 5, 6] (by decide) rfl
  have hK := hK.sub (tys' := [(ny_c7, .int), (ny_c15, .boolean)]) [0, 1] rfl
  refine W.widen (k := 6) (n := 46) (Nat.le_of_ble_eq_true rfl) (Nat.le_of_ble_eq_true rfl) ?_
  exact W.vret hx hb hr (fun t ht hW => ⟨⟨(ny_a7, ny_a15, ny_o21, ur_25, ny_o32, ur_36, ny_c7, ny_c15), rfl, (trivial), by rw [ht]; exact hP9, va_K.moved hW.alike hK, hD9⟩, hS.F ht⟩) hS.2.2 dX1_init_42

/-! PURE METHODS of the class and of the reference: numbers in, a number out. First the plain facts, then the walks. -/
theorem n_lo (x : Int32) : -9223372036854775808 < x.toInt64.toInt := by
  have := fb_rng x
  rw [Int32.toInt_toInt64]
  omega
theorem n_l0 {x : Int32} (h : x.toInt ≠ 0) : ¬ x.toInt64 = 0 := by
  intro e
  have e2 := congrArg Int64.toInt e
  rw [Int32.toInt_toInt64] at e2
  exact h e2
theorem n_q {x y x3 : Int32} (hx : ny_R x) (hy : ny_R y) (e3 : x3 = 2 * ny_ab (f_cu x y) - ny_ab y) : x3.toInt = 2 * ((x.toInt.tmod y.toInt).natAbs : Int) - (y.toInt.natAbs : Int) := by
  have h1 := f_cu_i (y := y) (ny_R_lo hx)
  have h2 := ny_tmod_sg x.toInt y.toInt
  have hx' := hx
  unfold ny_R at hx hy
  have h3 := ny_ab_i (x := f_cu x y) (by omega)
  have h4 := ny_ab_i (x := y) (by omega)
  have h5 : (2 * ny_ab (f_cu x y)).toInt = 2 * (ny_ab (f_cu x y)).toInt := by
    rw [fb_mulI (by rw [ny_z2]; omega) (by rw [ny_z2]; omega), ny_z2]
  rw [e3, fb_subI (by omega) (by omega)]
  omega
theorem n_nr1 {x y x3 : Int32} (hx : ny_R x) (hy : ny_R y) (h0 : ¬ y = 0) (e3 : x3 = 2 * ny_ab (f_cu x y) - ny_ab y) (h : x3 < 0 ∨ (x3 = 0 ∧ x / y &&& 1 = 0)) : x / y = f_nr x y := by
  have q1 := ny_divI (y := y) (ny_R_lo hx)
  have q3 := n_q hx hy e3
  refine ny_eqI ?_
  rw [f_nr_i hx h0, q1]
  unfold ma_nr
  rw [if_pos]
  rcases h with h | ⟨h, h2⟩
  · rw [fa_lt, ny_z0] at h
    omega
  · rw [ny_and1, q1] at h2
    rw [fa_eq, ny_z0] at h
    omega
theorem n_nrn {x y x3 : Int32} (hx : ny_R x) (hy : ny_R y) (e3 : x3 = 2 * ny_ab (f_cu x y) - ny_ab y) (h : ¬ (x3 < 0 ∨ (x3 = 0 ∧ x / y &&& 1 = 0))) : ¬ (2 * (x.toInt.tmod y.toInt).natAbs < y.toInt.natAbs ∨ (2 * (x.toInt.tmod y.toInt).natAbs = y.toInt.natAbs ∧ x.toInt.tdiv y.toInt % 2 = 0)) := by
  have q1 := ny_divI (y := y) (ny_R_lo hx)
  have q3 := n_q hx hy e3
  intro h9
  apply h
  rcases h9 with h9 | ⟨h9, h8⟩
  · left
    rw [fa_lt, ny_z0]
    omega
  · right
    refine ⟨?_, ?_⟩
    · rw [fa_eq, ny_z0]
      omega
    · rw [ny_and1, q1]
      exact h8
theorem n_tdiv {x y : Int32} (hx : ny_R x) : (x.toInt.tdiv y.toInt).natAbs ≤ 127 := by
  have h := Int.natAbs_tdiv_le_natAbs x.toInt y.toInt
  unfold ny_R at hx
  omega
theorem n_nr2 {x y x3 : Int32} (hx : ny_R x) (hy : ny_R y) (h0 : ¬ y = 0) (e3 : x3 = 2 * ny_ab (f_cu x y) - ny_ab y) (h : ¬ (x3 < 0 ∨ (x3 = 0 ∧ x / y &&& 1 = 0))) (hs : x < 0 ↔ y < 0) : x / y + 1 = f_nr x y := by
  have q1 := ny_divI (y := y) (ny_R_lo hx)
  have q2 := n_tdiv (y := y) hx
  refine ny_eqI ?_
  rw [f_nr_i hx h0, fb_addI (by rw [q1, ny_z1]; omega) (by rw [q1, ny_z1]; omega), q1, ny_z1]
  unfold ma_nr
  rw [if_neg (n_nrn hx hy e3 h), if_pos]
  rw [fa_lt, fa_lt, ny_z0] at hs
  exact hs
theorem n_nr3 {x y x3 : Int32} (hx : ny_R x) (hy : ny_R y) (h0 : ¬ y = 0) (e3 : x3 = 2 * ny_ab (f_cu x y) - ny_ab y) (h : ¬ (x3 < 0 ∨ (x3 = 0 ∧ x / y &&& 1 = 0))) (hs : ¬ (x < 0 ↔ y < 0)) : x / y - 1 = f_nr x y := by
  have q1 := ny_divI (y := y) (ny_R_lo hx)
  have q2 := n_tdiv (y := y) hx
  refine ny_eqI ?_
  rw [f_nr_i hx h0, fb_subI (by rw [q1, ny_z1]; omega) (by rw [q1, ny_z1]; omega), q1, ny_z1]
  unfold ma_nr
  rw [if_neg (n_nrn hx hy e3 h), if_neg]
  rw [fa_lt, fa_lt, ny_z0] at hs
  exact hs
theorem n_not {a : Prop} {b d : Prop} (h1 : ¬ a) (h2 : b → ¬ d) : ¬ (a ∨ (b ∧ d)) := fun h => h.elim h1 (fun q => h2 q.1 q.2)
theorem n_nge {x : Int32} (h : ¬ 0 ≤ x) : x < 0 := by rw [fa_le] at h; rw [fa_lt]; omega
theorem n_ge {x : Int32} (h : 0 ≤ x) : ¬ x < 0 := by rw [fa_le] at h; rw [fa_lt]; omega
theorem n_re {x y : Int32} (hx : ny_R x) (hy : ny_R y) (h0 : ¬ y = 0) : x - f_nr x y * y = f_re x y := by
  have q1 := f_nr_i hx h0
  have q2 := ma_half (x := x.toInt) (ny_nz0 h0)
  have q3 := f_re_i (x := x) hy h0
  have q4 : ma_re x.toInt y.toInt = x.toInt - ma_nr x.toInt y.toInt * y.toInt := rfl
  unfold ny_R at hx hy
  have q5 : (f_nr x y * y).toInt = ma_nr x.toInt y.toInt * y.toInt := by
    rw [fb_mulI (by rw [q1]; omega) (by rw [q1]; omega), q1]
  refine ny_eqI ?_
  rw [q3, fb_subI (by omega) (by omega)]
  omega
theorem n_l2i {v : Int64} {x3 : Int32} (hv : -9223372036854775808 < v.toInt) (h : 0 < x3.toInt) (h2 : x3.toInt ≤ 127) : ((v - v / x3.toInt64 * x3.toInt64).toInt32).toInt = v.toInt.tmod x3.toInt := by
  have q1 := ny_remL (y := x3.toInt64) hv
  rw [Int32.toInt_toInt64] at q1
  have q2 : (v.toInt.tmod x3.toInt).natAbs = v.toInt.natAbs % x3.toInt.natAbs := Int.natAbs_tmod _ _
  have q3 : v.toInt.natAbs % x3.toInt.natAbs < x3.toInt.natAbs := Nat.mod_lt _ (by omega)
  rw [Int64.toInt_toInt32, q1, fb_bmod (by omega) (by omega)]
theorem n_rsd {v y s : Int} (hs : s = y.natAbs) : y ∣ v - v.tmod s := by
  have h1 := Int.dvd_self_sub_tmod (x := v) (m := s)
  rw [hs] at h1 ⊢
  exact Int.natAbs_dvd.mp h1
theorem n_rs {v : Int64} {y x3 x4 r : Int32} (hy : ny_R y) (h0 : ¬ y = 0) (h3 : x3.toInt = (y.toInt.natAbs : Int)) (h4 : x4.toInt = v.toInt.tmod x3.toInt) (k : Int) (hr : r.toInt = x4.toInt + k * x3.toInt) (h5 : -(y.toInt.natAbs : Int) < 2 * r.toInt ∧ 2 * r.toInt ≤ (y.toInt.natAbs : Int)) : r = f_rs v y := by
  refine ny_eqI ?_
  rw [f_rs_i hy h0]
  refine (ma_rs_of (ny_nz0 h0) ⟨?_, h5.1, h5.2⟩).symm
  have h6 := n_rsd (v := v.toInt) (y := y.toInt) h3
  have h7 : y.toInt ∣ k * x3.toInt := by
    rw [h3]
    exact Int.dvd_mul_of_dvd_right (Int.dvd_natAbs.mpr (Int.dvd_refl _))
  have h8 := Int.dvd_sub h6 h7
  have h9 : v.toInt - v.toInt.tmod x3.toInt - k * x3.toInt = v.toInt - r.toInt := by rw [hr, h4]; omega
  rw [h9] at h8
  exact h8
theorem n_rsb {v s : Int} (h : 0 < s) : -s < v.tmod s ∧ v.tmod s < s := ⟨Int.lt_tmod_of_pos v h, Int.tmod_lt_of_pos v h⟩
theorem n_2x {x : Int32} (h1 : -200 ≤ x.toInt) (h2 : x.toInt ≤ 200) : (2 * x).toInt = 2 * x.toInt := by
  rw [fb_mulI (by rw [ny_z2]; omega) (by rw [ny_z2]; omega), ny_z2]
theorem n_rs1 {v : Int64} {y x3 x4 : Int32} (hy : ny_R y) (h0 : ¬ y = 0) (h3 : x3.toInt = (y.toInt.natAbs : Int)) (h4 : x4.toInt = v.toInt.tmod x3.toInt) (c : ¬ 2 * x4 ≤ x3) : x4 - x3 = f_rs v y := by
  have h9 := ny_nz0 h0
  have h5 := n_rsb (v := v.toInt) (s := x3.toInt) (by omega)
  have hy' := hy
  unfold ny_R at hy
  have h6 := n_2x (x := x4) (by omega) (by omega)
  rw [fa_le] at c
  have h7 : (x4 - x3).toInt = x4.toInt + (-1) * x3.toInt := by rw [fb_subI (by omega) (by omega)]; omega
  exact n_rs hy' h0 h3 h4 (-1) h7 (by omega)
theorem n_rs2 {v : Int64} {y x3 x4 : Int32} (hy : ny_R y) (h0 : ¬ y = 0) (h3 : x3.toInt = (y.toInt.natAbs : Int)) (h4 : x4.toInt = v.toInt.tmod x3.toInt) (c : 2 * x4 ≤ x3) (c2 : -x3 < 2 * x4) : x4 = f_rs v y := by
  have h9 := ny_nz0 h0
  have h5 := n_rsb (v := v.toInt) (s := x3.toInt) (by omega)
  have hy' := hy
  unfold ny_R at hy
  have h6 := n_2x (x := x4) (by omega) (by omega)
  have h7 := fb_negI (x := x3) (by omega)
  rw [fa_le] at c
  rw [fa_lt] at c2
  exact n_rs hy' h0 h3 h4 0 (by omega) (by omega)
theorem n_rs3 {v : Int64} {y x3 x4 : Int32} (hy : ny_R y) (h0 : ¬ y = 0) (h3 : x3.toInt = (y.toInt.natAbs : Int)) (h4 : x4.toInt = v.toInt.tmod x3.toInt) (c2 : ¬ -x3 < 2 * x4) : x4 + x3 = f_rs v y := by
  have h9 := ny_nz0 h0
  have h5 := n_rsb (v := v.toInt) (s := x3.toInt) (by omega)
  have hy' := hy
  unfold ny_R at hy
  have h6 := n_2x (x := x4) (by omega) (by omega)
  have h8 := fb_negI (x := x3) (by omega)
  rw [fa_lt] at c2
  have h7 : (x4 + x3).toInt = x4.toInt + 1 * x3.toInt := by rw [fb_addI (by omega) (by omega)]; omega
  exact n_rs hy' h0 h3 h4 1 h7 (by omega)
/-! places -/
theorem n_p0 {p : Int32} (h : vp_in p 12) : ¬ p < 0 := fun e => h (Or.inl e)
theorem n_ci (p : Int32) (h : ¬ p < 0) : (p.toNatClampNeg : Int) = p.toInt := by
  rw [fa_lt, ny_z0] at h
  have : p.toNatClampNeg = p.toInt.toNat := rfl
  omega
theorem n_p1 {p : Int32} (h : vp_in p 12) : ¬ 12 ≤ p := by
  intro e
  rw [fa_le] at e
  have z : (12 : Int32).toInt = 12 := rfl
  have h1 := n_ci p (n_p0 h)
  exact h (Or.inr (by omega))
theorem n_p2 {p : Int32} (h : ¬ vp_in p 12) (h0 : ¬ p < 0) : 12 ≤ p := by
  rw [fa_le]
  have z : (12 : Int32).toInt = 12 := rfl
  have h1 := n_ci p h0
  by_cases h9 : 12 ≤ p.toNatClampNeg
  · omega
  · exact absurd (fun q => q.elim h0 h9) h
theorem n_p3 {p : Int32} (h : vp_in p 12) : p < 12 := by
  have h1 := n_p1 h
  rw [fa_le] at h1
  rw [fa_lt]
  omega
theorem n_p4 {p : Int32} (h : ¬ vp_in p 12) (h0 : ¬ p < 0) : ¬ p < 12 := by
  have h1 := n_p2 h h0
  rw [fa_le] at h1
  rw [fa_lt]
  omega
theorem n_cmp1 {x y : Int32} (h : ¬ y ≤ x) : (-1 : Int32) = if x < y then -1 else if x = y then 0 else 1 := by
  rw [if_pos (by rw [fa_le] at h; rw [fa_lt]; omega)]
theorem n_cmp2 {x y : Int32} (h : y ≤ x) (h2 : x = y) : (0 : Int32) = if x < y then -1 else if x = y then 0 else 1 := by
  rw [if_neg (by rw [fa_le] at h; rw [fa_lt]; omega), if_pos h2]
theorem n_cmp3 {x y : Int32} (h : y ≤ x) (h2 : ¬ x = y) : (1 : Int32) = if x < y then -1 else if x = y then 0 else 1 := by
  rw [if_neg (by rw [fa_le] at h; rw [fa_lt]; omega), if_neg h2]
set_option maxHeartbeats 4000000 in
set_option maxRecDepth 100000 in
theorem c_X1_quotient (l : Launch) (x : Int32) (y : Int32) (g0 : ¬ y = 0) : Met l yX1_quotient wsX1_quotient ({ frames := 0, cells := 0, slots := 0, locals := 0 }) (va_Pc [.int x, .int y] (fun _ => True)) (vp_Si (fun r => r = x / y)) 0 0 (fun _ => False) := by
  refine Met.ofW (cc := cX1_quotient) (maxL := 2) (ret := (some .int)) (by decide) rfl ?_
  intro p e s m args below meth c s₁ B hml hv
  obtain ⟨rfl, -⟩ := hv
  have hx := B.exec
  have hb := B.bytes
  have hr := B.returns
  have hts := atoms_spec (ws := wsX1_quotient) B.pre
  have hown : s.vm.findClass RX1 = some m.cls := findClass_of_methodNamed B.named
  have hlocks := B.notSynchronized
  have hl := lv_entry ([.int x, .int y]) (n := 2) (Nat.le_of_ble_eq_true rfl)
  rw [lg_entry_eq]
  generalize (lg_sl ([.int x, .int y]) ++ List.replicate (2 - (lg_sl ([.int x, .int y])).length) Slot.unset).toArray = ls at hl ⊢
  have hl : lv_has ls 2 [(0, .int x), (1, .int y)] := hl
  refine lv_iload_n hx hb dX1_quotient_0 rfl (lv_at hl 1 rfl) ?_
  refine lv_if_ne (tgt := 8) hx hb dX1_quotient_1 (by decide) (fun c_1 => ?_) (fun c_1 => absurd c_1 (show ¬ ((y : Int32) = 0) from g0))
  refine lv_iload_n hx hb dX1_quotient_8 rfl (lv_at hl 0 rfl) ?_
  refine lv_iload_n hx hb dX1_quotient_9 rfl (lv_at hl 1 rfl) ?_
  refine lv_idiv hx hb dX1_quotient_10 (by assumption) ?_
  exact W.iret (v := x / y) hx hb hr (fun t ht hW => ⟨x / y, rfl, (rfl), ht⟩) (fun q hq => absurd hq List.not_mem_nil) dX1_quotient_11
set_option maxHeartbeats 4000000 in
set_option maxRecDepth 100000 in
theorem c_X1_cutOf (l : Launch) (x : Int32) (y : Int32) (g0 : ¬ y = 0) : Met l yX1_cutOf wsX1_cutOf ({ frames := 0, cells := 0, slots := 0, locals := 0 }) (va_Pc [.int x, .int y] (fun _ => True)) (vp_Si (fun r => r = f_cu x y)) 0 0 (fun _ => False) := by
  refine Met.ofW (cc := cX1_cutOf) (maxL := 2) (ret := (some .int)) (by decide) rfl ?_
  intro p e s m args below meth c s₁ B hml hv
  obtain ⟨rfl, -⟩ := hv
  have hx := B.exec
  have hb := B.bytes
  have hr := B.returns
  have hts := atoms_spec (ws := wsX1_cutOf) B.pre
  have hown : s.vm.findClass RX1 = some m.cls := findClass_of_methodNamed B.named
  have hlocks := B.notSynchronized
  have hl := lv_entry ([.int x, .int y]) (n := 2) (Nat.le_of_ble_eq_true rfl)
  rw [lg_entry_eq]
  generalize (lg_sl ([.int x, .int y]) ++ List.replicate (2 - (lg_sl ([.int x, .int y])).length) Slot.unset).toArray = ls at hl ⊢
  have hl : lv_has ls 2 [(0, .int x), (1, .int y)] := hl
  refine lv_iload_n hx hb dX1_cutOf_0 rfl (lv_at hl 1 rfl) ?_
  refine lv_if_ne (tgt := 8) hx hb dX1_cutOf_1 (by decide) (fun c_1 => ?_) (fun c_1 => absurd c_1 (show ¬ ((y : Int32) = 0) from g0))
  refine lv_iload_n hx hb dX1_cutOf_8 rfl (lv_at hl 0 rfl) ?_
  refine lv_iload_n hx hb dX1_cutOf_9 rfl (lv_at hl 1 rfl) ?_
  refine lv_irem hx hb dX1_cutOf_10 (by assumption) ?_
  exact W.iret (v := x - x / y * y) hx hb hr (fun t ht hW => ⟨x - x / y * y, rfl, (rfl), ht⟩) (fun q hq => absurd hq List.not_mem_nil) dX1_cutOf_11
set_option maxHeartbeats 4000000 in
set_option maxRecDepth 100000 in
theorem c_X1_nearest (l : Launch) (x : Int32) (y : Int32) (gx : ny_R x) (gy : ny_R y) (g0 : ¬ y = 0) : Met l yX1_nearest wsX1_nearest ({ frames := 1, cells := 0, slots := 0, locals := 24 }) (va_Pc [.int x, .int y] (fun _ => True)) (vp_Si (fun r => r = f_nr x y)) 0 0 (fun _ => False) := by
  refine Met.ofW (cc := cX1_nearest) (maxL := 5) (ret := (some .int)) (by decide) rfl ?_
  intro p e s m args below meth c s₁ B hml hv
  obtain ⟨rfl, -⟩ := hv
  have hx := B.exec
  have hb := B.bytes
  have hr := B.returns
  have hts := atoms_spec (ws := wsX1_nearest) B.pre
  have hown : s.vm.findClass RX1 = some m.cls := findClass_of_methodNamed B.named
  have hlocks := B.notSynchronized
  have hl := lv_entry ([.int x, .int y]) (n := 5) (Nat.le_of_ble_eq_true rfl)
  rw [lg_entry_eq]
  generalize (lg_sl ([.int x, .int y]) ++ List.replicate (5 - (lg_sl ([.int x, .int y])).length) Slot.unset).toArray = ls at hl ⊢
  have hl : lv_has ls 5 [(0, .int x), (1, .int y)] := hl
  refine lv_iload_n hx hb dX1_nearest_0 rfl (lv_at hl 0 rfl) ?_
  refine lv_iload_n hx hb dX1_nearest_1 rfl (lv_at hl 1 rfl) ?_
  refine vp_callSi (va_Run.run (va_runS (As := [.int x, .int y]) (rest := []) ⟨hx, hb, hml, hown, hts⟩ (c_X1_quotient l x y (by assumption)) (va_cwS 2 hts gX1_nearest_X1_quotient rfl rfl rfl (by decide +kernel) ⟨Nat.le_of_ble_eq_true rfl, Nat.le_of_ble_eq_true rfl⟩) ⟨ny_blindT, fun U hU hW => ⟨rfl, trivial⟩⟩ rfl rfl hl.1 rfl (lv_room (Nat.le_of_ble_eq_true rfl)) dX1_nearest_2 ⟨Nat.le_of_ble_eq_true rfl, Nat.le_of_ble_eq_true rfl⟩)) (fun r_2 hw_2 => ?_)
  have hw_2 : r_2 = x / y := hw_2
  subst hw_2
  refine lv_istore_n (lv' := [(2, .int (x / y)), (0, .int x), (1, .int y)]) hx hb dX1_nearest_5 rfl hl (by decide) rfl (fun ls hl => ?_)
  refine lv_iconst (v := 2) hx hb dX1_nearest_6 (by decide) ?_
  refine lv_iload_n hx hb dX1_nearest_7 rfl (lv_at hl 1 rfl) ?_
  refine lv_iload_n hx hb dX1_nearest_8 rfl (lv_at hl 2 rfl) ?_
  refine vp_callSi (va_Run.run (va_runS (As := [.int x, .int y]) (rest := [.int 2]) ⟨hx, hb, hml, hown, hts⟩ (c_X1_cutOf l x y (by assumption)) (va_cwS 2 hts gX1_nearest_X1_cutOf rfl rfl rfl (by decide +kernel) ⟨Nat.le_of_ble_eq_true rfl, Nat.le_of_ble_eq_true rfl⟩) ⟨ny_blindT, fun U hU hW => ⟨rfl, trivial⟩⟩ rfl rfl hl.1 rfl (lv_room (Nat.le_of_ble_eq_true rfl)) dX1_nearest_9 ⟨Nat.le_of_ble_eq_true rfl, Nat.le_of_ble_eq_true rfl⟩)) (fun r_9 hw_9 => ?_)
  have hw_9 : r_9 = f_cu x y := hw_9
  subst hw_9
  refine va_mabs hx hb (hml.trans hl.1.symm) hown (hts (.methodLink RX1 65 Lib.Math.abs.name) (List.mem_of_getElem? (i := 1) rfl)) (hts (.static Lib.Math.abs.name) (List.mem_of_getElem? (i := 2) rfl)) (hts (.initialized "java/lang/Math") (List.mem_of_getElem? (i := 3) rfl)) (hts (.code Lib.Math.abs.name Lib.Math.abs.code 1 (some .int)) (List.mem_of_getElem? (i := 4) rfl)) (Nat.le_of_ble_eq_true rfl) (Nat.le_of_ble_eq_true rfl) (Nat.le_of_ble_eq_true rfl) (Nat.le_of_ble_eq_true rfl) dX1_nearest_12 ?_
  refine W.eq (g2 := F0 m 15 ls [.int (ny_ab (f_cu x y)), .int 2]) rfl ?_
  refine lv_imul hx hb dX1_nearest_15 ?_
  refine lv_iload_n hx hb dX1_nearest_16 rfl (lv_at hl 2 rfl) ?_
  refine va_mabs hx hb (hml.trans hl.1.symm) hown (hts (.methodLink RX1 65 Lib.Math.abs.name) (List.mem_of_getElem? (i := 1) rfl)) (hts (.static Lib.Math.abs.name) (List.mem_of_getElem? (i := 2) rfl)) (hts (.initialized "java/lang/Math") (List.mem_of_getElem? (i := 3) rfl)) (hts (.code Lib.Math.abs.name Lib.Math.abs.code 1 (some .int)) (List.mem_of_getElem? (i := 4) rfl)) (Nat.le_of_ble_eq_true rfl) (Nat.le_of_ble_eq_true rfl) (Nat.le_of_ble_eq_true rfl) (Nat.le_of_ble_eq_true rfl) dX1_nearest_17 ?_
  refine W.eq (g2 := F0 m 20 ls [.int (ny_ab y), .int (2 * (ny_ab (f_cu x y)))]) rfl ?_
  refine lv_isub hx hb dX1_nearest_20 ?_
  refine lv_topi (fun x3 e_x3 => ?_)
  refine lv_istore_n (lv' := [(3, .int x3), (2, .int (x / y)), (0, .int x), (1, .int y)]) hx hb dX1_nearest_21 rfl hl (by decide) rfl (fun ls hl => ?_)
  refine lv_iload_n hx hb dX1_nearest_22 rfl (lv_at hl 1 rfl) ?_
  refine lv_iconst (v := 1) hx hb dX1_nearest_23 (by decide) ?_
  refine lv_iand hx hb dX1_nearest_24 ?_
  refine lv_if_eq (tgt := 32) hx hb dX1_nearest_25 (by decide) (fun c_25 => ?_) (fun c_25 => ?_)
  · refine lv_iconst (v := 0) hx hb dX1_nearest_32 (by decide) ?_
    refine lv_istore (lv' := [(4, .int 0), (3, .int x3), (2, .int (x / y)), (0, .int x), (1, .int y)]) hx hb dX1_nearest_33 hl (by decide) rfl (fun ls hl => ?_)
    refine lv_iload_n hx hb dX1_nearest_35 rfl (lv_at hl 1 rfl) ?_
    refine lv_if_lt (tgt := 48) hx hb dX1_nearest_36 (by decide) (fun c_36 => ?_) (fun c_36 => ?_)
    · refine lv_iload_n hx hb dX1_nearest_48 rfl (lv_at hl 2 rfl) ?_
      exact W.iret (v := x / y) hx hb hr (fun t ht hW => ⟨x / y, rfl, (n_nr1 gx gy g0 e_x3 (Or.inl c_36)), ht⟩) (fun q hq => absurd hq List.not_mem_nil) dX1_nearest_49
    · refine lv_iload_n hx hb dX1_nearest_39 rfl (lv_at hl 1 rfl) ?_
      refine lv_if_ne (tgt := 50) hx hb dX1_nearest_40 (by decide) (fun c_40 => ?_) (fun c_40 => ?_)
      · refine lv_iload_n hx hb dX1_nearest_50 rfl (lv_at hl 3 rfl) ?_
        refine lv_if_ge (tgt := 58) hx hb dX1_nearest_51 (by decide) (fun c_51 => ?_) (fun c_51 => ?_)
        · refine lv_iconst (v := 0) hx hb dX1_nearest_58 (by decide) ?_
          refine lv_iload_n hx hb dX1_nearest_59 rfl (lv_at hl 4 rfl) ?_
          refine lv_if_ge (tgt := 67) hx hb dX1_nearest_60 (by decide) (fun c_60 => ?_) (fun c_60 => ?_)
          · refine lv_iconst (v := 0) hx hb dX1_nearest_67 (by decide) ?_
            refine lv_icmp_ne (tgt := 77) hx hb dX1_nearest_68 (by decide) (fun c_68 => absurd (show (0 : Int32) = 0 by  decide) c_68) (fun c_68 => ?_)
            refine lv_iload_n hx hb dX1_nearest_71 rfl (lv_at hl 2 rfl) ?_
            refine lv_iconst (v := 1) hx hb dX1_nearest_72 (by decide) ?_
            refine lv_iadd hx hb dX1_nearest_73 ?_
            refine lv_goto (tgt := 80) hx hb dX1_nearest_74 (by decide) ?_
            exact W.iret (v := (x / y) + 1) hx hb hr (fun t ht hW => ⟨(x / y) + 1, rfl, (n_nr2 gx gy g0 e_x3 (n_not c_36 (fun q => absurd q c_40)) (iff_of_false (n_ge c_51) (n_ge c_60))), ht⟩) (fun q hq => absurd hq List.not_mem_nil) dX1_nearest_80
          · refine lv_iconst (v := 1) hx hb dX1_nearest_63 (by decide) ?_
            refine lv_goto (tgt := 68) hx hb dX1_nearest_64 (by decide) ?_
            refine lv_icmp_ne (tgt := 77) hx hb dX1_nearest_68 (by decide) (fun c_68 => ?_) (fun c_68 => absurd c_68 (show ¬ ((0 : Int32) = 1) by  decide))
            refine lv_iload_n hx hb dX1_nearest_77 rfl (lv_at hl 2 rfl) ?_
            refine lv_iconst (v := 1) hx hb dX1_nearest_78 (by decide) ?_
            refine lv_isub hx hb dX1_nearest_79 ?_
            exact W.iret (v := (x / y) - 1) hx hb hr (fun t ht hW => ⟨(x / y) - 1, rfl, (n_nr3 gx gy g0 e_x3 (n_not c_36 (fun q => absurd q c_40)) (fun e => n_ge c_51 (e.mpr (n_nge c_60)))), ht⟩) (fun q hq => absurd hq List.not_mem_nil) dX1_nearest_80
        · refine lv_iconst (v := 1) hx hb dX1_nearest_54 (by decide) ?_
          refine lv_goto (tgt := 59) hx hb dX1_nearest_55 (by decide) ?_
          refine lv_iload_n hx hb dX1_nearest_59 rfl (lv_at hl 4 rfl) ?_
          refine lv_if_ge (tgt := 67) hx hb dX1_nearest_60 (by decide) (fun c_60 => ?_) (fun c_60 => ?_)
          · refine lv_iconst (v := 0) hx hb dX1_nearest_67 (by decide) ?_
            refine lv_icmp_ne (tgt := 77) hx hb dX1_nearest_68 (by decide) (fun c_68 => ?_) (fun c_68 => absurd c_68 (show ¬ ((1 : Int32) = 0) by  decide))
            refine lv_iload_n hx hb dX1_nearest_77 rfl (lv_at hl 2 rfl) ?_
            refine lv_iconst (v := 1) hx hb dX1_nearest_78 (by decide) ?_
            refine lv_isub hx hb dX1_nearest_79 ?_
            exact W.iret (v := (x / y) - 1) hx hb hr (fun t ht hW => ⟨(x / y) - 1, rfl, (n_nr3 gx gy g0 e_x3 (n_not c_36 (fun q => absurd q c_40)) (fun e => n_ge c_60 (e.mp (n_nge c_51)))), ht⟩) (fun q hq => absurd hq List.not_mem_nil) dX1_nearest_80
          · refine lv_iconst (v := 1) hx hb dX1_nearest_63 (by decide) ?_
            refine lv_goto (tgt := 68) hx hb dX1_nearest_64 (by decide) ?_
            refine lv_icmp_ne (tgt := 77) hx hb dX1_nearest_68 (by decide) (fun c_68 => absurd (show (1 : Int32) = 1 by  decide) c_68) (fun c_68 => ?_)
            refine lv_iload_n hx hb dX1_nearest_71 rfl (lv_at hl 2 rfl) ?_
            refine lv_iconst (v := 1) hx hb dX1_nearest_72 (by decide) ?_
            refine lv_iadd hx hb dX1_nearest_73 ?_
            refine lv_goto (tgt := 80) hx hb dX1_nearest_74 (by decide) ?_
            exact W.iret (v := (x / y) + 1) hx hb hr (fun t ht hW => ⟨(x / y) + 1, rfl, (n_nr2 gx gy g0 e_x3 (n_not c_36 (fun q => absurd q c_40)) (iff_of_true (n_nge c_51) (n_nge c_60))), ht⟩) (fun q hq => absurd hq List.not_mem_nil) dX1_nearest_80
      · refine lv_iload hx hb dX1_nearest_43 (lv_at hl 0 rfl) ?_
        refine lv_if_ne (tgt := 50) hx hb dX1_nearest_45 (by decide) (fun c_45 => absurd (show (0 : Int32) = 0 by  decide) c_45) (fun c_45 => ?_)
        refine lv_iload_n hx hb dX1_nearest_48 rfl (lv_at hl 2 rfl) ?_
        exact W.iret (v := x / y) hx hb hr (fun t ht hW => ⟨x / y, rfl, (n_nr1 gx gy g0 e_x3 (Or.inr ⟨c_40, c_25⟩)), ht⟩) (fun q hq => absurd hq List.not_mem_nil) dX1_nearest_49
  · refine lv_iconst (v := 1) hx hb dX1_nearest_28 (by decide) ?_
    refine lv_goto (tgt := 33) hx hb dX1_nearest_29 (by decide) ?_
    refine lv_istore (lv' := [(4, .int 1), (3, .int x3), (2, .int (x / y)), (0, .int x), (1, .int y)]) hx hb dX1_nearest_33 hl (by decide) rfl (fun ls hl => ?_)
    refine lv_iload_n hx hb dX1_nearest_35 rfl (lv_at hl 1 rfl) ?_
    refine lv_if_lt (tgt := 48) hx hb dX1_nearest_36 (by decide) (fun c_36 => ?_) (fun c_36 => ?_)
    · refine lv_iload_n hx hb dX1_nearest_48 rfl (lv_at hl 2 rfl) ?_
      exact W.iret (v := x / y) hx hb hr (fun t ht hW => ⟨x / y, rfl, (n_nr1 gx gy g0 e_x3 (Or.inl c_36)), ht⟩) (fun q hq => absurd hq List.not_mem_nil) dX1_nearest_49
    · refine lv_iload_n hx hb dX1_nearest_39 rfl (lv_at hl 1 rfl) ?_
      refine lv_if_ne (tgt := 50) hx hb dX1_nearest_40 (by decide) (fun c_40 => ?_) (fun c_40 => ?_)
      · refine lv_iload_n hx hb dX1_nearest_50 rfl (lv_at hl 3 rfl) ?_
        refine lv_if_ge (tgt := 58) hx hb dX1_nearest_51 (by decide) (fun c_51 => ?_) (fun c_51 => ?_)
        · refine lv_iconst (v := 0) hx hb dX1_nearest_58 (by decide) ?_
          refine lv_iload_n hx hb dX1_nearest_59 rfl (lv_at hl 4 rfl) ?_
          refine lv_if_ge (tgt := 67) hx hb dX1_nearest_60 (by decide) (fun c_60 => ?_) (fun c_60 => ?_)
          · refine lv_iconst (v := 0) hx hb dX1_nearest_67 (by decide) ?_
            refine lv_icmp_ne (tgt := 77) hx hb dX1_nearest_68 (by decide) (fun c_68 => absurd (show (0 : Int32) = 0 by  decide) c_68) (fun c_68 => ?_)
            refine lv_iload_n hx hb dX1_nearest_71 rfl (lv_at hl 2 rfl) ?_
            refine lv_iconst (v := 1) hx hb dX1_nearest_72 (by decide) ?_
            refine lv_iadd hx hb dX1_nearest_73 ?_
            refine lv_goto (tgt := 80) hx hb dX1_nearest_74 (by decide) ?_
            exact W.iret (v := (x / y) + 1) hx hb hr (fun t ht hW => ⟨(x / y) + 1, rfl, (n_nr2 gx gy g0 e_x3 (n_not c_36 (fun q => absurd q c_40)) (iff_of_false (n_ge c_51) (n_ge c_60))), ht⟩) (fun q hq => absurd hq List.not_mem_nil) dX1_nearest_80
          · refine lv_iconst (v := 1) hx hb dX1_nearest_63 (by decide) ?_
            refine lv_goto (tgt := 68) hx hb dX1_nearest_64 (by decide) ?_
            refine lv_icmp_ne (tgt := 77) hx hb dX1_nearest_68 (by decide) (fun c_68 => ?_) (fun c_68 => absurd c_68 (show ¬ ((0 : Int32) = 1) by  decide))
            refine lv_iload_n hx hb dX1_nearest_77 rfl (lv_at hl 2 rfl) ?_
            refine lv_iconst (v := 1) hx hb dX1_nearest_78 (by decide) ?_
            refine lv_isub hx hb dX1_nearest_79 ?_
            exact W.iret (v := (x / y) - 1) hx hb hr (fun t ht hW => ⟨(x / y) - 1, rfl, (n_nr3 gx gy g0 e_x3 (n_not c_36 (fun q => absurd q c_40)) (fun e => n_ge c_51 (e.mpr (n_nge c_60)))), ht⟩) (fun q hq => absurd hq List.not_mem_nil) dX1_nearest_80
        · refine lv_iconst (v := 1) hx hb dX1_nearest_54 (by decide) ?_
          refine lv_goto (tgt := 59) hx hb dX1_nearest_55 (by decide) ?_
          refine lv_iload_n hx hb dX1_nearest_59 rfl (lv_at hl 4 rfl) ?_
          refine lv_if_ge (tgt := 67) hx hb dX1_nearest_60 (by decide) (fun c_60 => ?_) (fun c_60 => ?_)
          · refine lv_iconst (v := 0) hx hb dX1_nearest_67 (by decide) ?_
            refine lv_icmp_ne (tgt := 77) hx hb dX1_nearest_68 (by decide) (fun c_68 => ?_) (fun c_68 => absurd c_68 (show ¬ ((1 : Int32) = 0) by  decide))
            refine lv_iload_n hx hb dX1_nearest_77 rfl (lv_at hl 2 rfl) ?_
            refine lv_iconst (v := 1) hx hb dX1_nearest_78 (by decide) ?_
            refine lv_isub hx hb dX1_nearest_79 ?_
            exact W.iret (v := (x / y) - 1) hx hb hr (fun t ht hW => ⟨(x / y) - 1, rfl, (n_nr3 gx gy g0 e_x3 (n_not c_36 (fun q => absurd q c_40)) (fun e => n_ge c_60 (e.mp (n_nge c_51)))), ht⟩) (fun q hq => absurd hq List.not_mem_nil) dX1_nearest_80
          · refine lv_iconst (v := 1) hx hb dX1_nearest_63 (by decide) ?_
            refine lv_goto (tgt := 68) hx hb dX1_nearest_64 (by decide) ?_
            refine lv_icmp_ne (tgt := 77) hx hb dX1_nearest_68 (by decide) (fun c_68 => absurd (show (1 : Int32) = 1 by  decide) c_68) (fun c_68 => ?_)
            refine lv_iload_n hx hb dX1_nearest_71 rfl (lv_at hl 2 rfl) ?_
            refine lv_iconst (v := 1) hx hb dX1_nearest_72 (by decide) ?_
            refine lv_iadd hx hb dX1_nearest_73 ?_
            refine lv_goto (tgt := 80) hx hb dX1_nearest_74 (by decide) ?_
            exact W.iret (v := (x / y) + 1) hx hb hr (fun t ht hW => ⟨(x / y) + 1, rfl, (n_nr2 gx gy g0 e_x3 (n_not c_36 (fun q => absurd q c_40)) (iff_of_true (n_nge c_51) (n_nge c_60))), ht⟩) (fun q hq => absurd hq List.not_mem_nil) dX1_nearest_80
      · refine lv_iload hx hb dX1_nearest_43 (lv_at hl 0 rfl) ?_
        refine lv_if_ne (tgt := 50) hx hb dX1_nearest_45 (by decide) (fun c_45 => ?_) (fun c_45 => absurd c_45 (show ¬ ((1 : Int32) = 0) by  decide))
        refine lv_iload_n hx hb dX1_nearest_50 rfl (lv_at hl 3 rfl) ?_
        refine lv_if_ge (tgt := 58) hx hb dX1_nearest_51 (by decide) (fun c_51 => ?_) (fun c_51 => ?_)
        · refine lv_iconst (v := 0) hx hb dX1_nearest_58 (by decide) ?_
          refine lv_iload_n hx hb dX1_nearest_59 rfl (lv_at hl 4 rfl) ?_
          refine lv_if_ge (tgt := 67) hx hb dX1_nearest_60 (by decide) (fun c_60 => ?_) (fun c_60 => ?_)
          · refine lv_iconst (v := 0) hx hb dX1_nearest_67 (by decide) ?_
            refine lv_icmp_ne (tgt := 77) hx hb dX1_nearest_68 (by decide) (fun c_68 => absurd (show (0 : Int32) = 0 by  decide) c_68) (fun c_68 => ?_)
            refine lv_iload_n hx hb dX1_nearest_71 rfl (lv_at hl 2 rfl) ?_
            refine lv_iconst (v := 1) hx hb dX1_nearest_72 (by decide) ?_
            refine lv_iadd hx hb dX1_nearest_73 ?_
            refine lv_goto (tgt := 80) hx hb dX1_nearest_74 (by decide) ?_
            exact W.iret (v := (x / y) + 1) hx hb hr (fun t ht hW => ⟨(x / y) + 1, rfl, (n_nr2 gx gy g0 e_x3 (n_not c_36 (fun _ => c_25)) (iff_of_false (n_ge c_51) (n_ge c_60))), ht⟩) (fun q hq => absurd hq List.not_mem_nil) dX1_nearest_80
          · refine lv_iconst (v := 1) hx hb dX1_nearest_63 (by decide) ?_
            refine lv_goto (tgt := 68) hx hb dX1_nearest_64 (by decide) ?_
            refine lv_icmp_ne (tgt := 77) hx hb dX1_nearest_68 (by decide) (fun c_68 => ?_) (fun c_68 => absurd c_68 (show ¬ ((0 : Int32) = 1) by  decide))
            refine lv_iload_n hx hb dX1_nearest_77 rfl (lv_at hl 2 rfl) ?_
            refine lv_iconst (v := 1) hx hb dX1_nearest_78 (by decide) ?_
            refine lv_isub hx hb dX1_nearest_79 ?_
            exact W.iret (v := (x / y) - 1) hx hb hr (fun t ht hW => ⟨(x / y) - 1, rfl, (n_nr3 gx gy g0 e_x3 (n_not c_36 (fun _ => c_25)) (fun e => n_ge c_51 (e.mpr (n_nge c_60)))), ht⟩) (fun q hq => absurd hq List.not_mem_nil) dX1_nearest_80
        · refine lv_iconst (v := 1) hx hb dX1_nearest_54 (by decide) ?_
          refine lv_goto (tgt := 59) hx hb dX1_nearest_55 (by decide) ?_
          refine lv_iload_n hx hb dX1_nearest_59 rfl (lv_at hl 4 rfl) ?_
          refine lv_if_ge (tgt := 67) hx hb dX1_nearest_60 (by decide) (fun c_60 => ?_) (fun c_60 => ?_)
          · refine lv_iconst (v := 0) hx hb dX1_nearest_67 (by decide) ?_
            refine lv_icmp_ne (tgt := 77) hx hb dX1_nearest_68 (by decide) (fun c_68 => ?_) (fun c_68 => absurd c_68 (show ¬ ((1 : Int32) = 0) by  decide))
            refine lv_iload_n hx hb dX1_nearest_77 rfl (lv_at hl 2 rfl) ?_
            refine lv_iconst (v := 1) hx hb dX1_nearest_78 (by decide) ?_
            refine lv_isub hx hb dX1_nearest_79 ?_
            exact W.iret (v := (x / y) - 1) hx hb hr (fun t ht hW => ⟨(x / y) - 1, rfl, (n_nr3 gx gy g0 e_x3 (n_not c_36 (fun _ => c_25)) (fun e => n_ge c_60 (e.mp (n_nge c_51)))), ht⟩) (fun q hq => absurd hq List.not_mem_nil) dX1_nearest_80
          · refine lv_iconst (v := 1) hx hb dX1_nearest_63 (by decide) ?_
            refine lv_goto (tgt := 68) hx hb dX1_nearest_64 (by decide) ?_
            refine lv_icmp_ne (tgt := 77) hx hb dX1_nearest_68 (by decide) (fun c_68 => absurd (show (1 : Int32) = 1 by  decide) c_68) (fun c_68 => ?_)
            refine lv_iload_n hx hb dX1_nearest_71 rfl (lv_at hl 2 rfl) ?_
            refine lv_iconst (v := 1) hx hb dX1_nearest_72 (by decide) ?_
            refine lv_iadd hx hb dX1_nearest_73 ?_
            refine lv_goto (tgt := 80) hx hb dX1_nearest_74 (by decide) ?_
            exact W.iret (v := (x / y) + 1) hx hb hr (fun t ht hW => ⟨(x / y) + 1, rfl, (n_nr2 gx gy g0 e_x3 (n_not c_36 (fun _ => c_25)) (iff_of_true (n_nge c_51) (n_nge c_60))), ht⟩) (fun q hq => absurd hq List.not_mem_nil) dX1_nearest_80
set_option maxHeartbeats 4000000 in
set_option maxRecDepth 100000 in
theorem c_X1_restOf (l : Launch) (x : Int32) (y : Int32) (gx : ny_R x) (gy : ny_R y) (g0 : ¬ y = 0) : Met l yX1_restOf wsX1_restOf ({ frames := 2, cells := 0, slots := 0, locals := 48 }) (va_Pc [.int x, .int y] (fun _ => True)) (vp_Si (fun r => r = f_re x y)) 0 0 (fun _ => False) := by
  refine Met.ofW (cc := cX1_restOf) (maxL := 2) (ret := (some .int)) (by decide) rfl ?_
  intro p e s m args below meth c s₁ B hml hv
  obtain ⟨rfl, -⟩ := hv
  have hx := B.exec
  have hb := B.bytes
  have hr := B.returns
  have hts := atoms_spec (ws := wsX1_restOf) B.pre
  have hown : s.vm.findClass RX1 = some m.cls := findClass_of_methodNamed B.named
  have hlocks := B.notSynchronized
  have hl := lv_entry ([.int x, .int y]) (n := 2) (Nat.le_of_ble_eq_true rfl)
  rw [lg_entry_eq]
  generalize (lg_sl ([.int x, .int y]) ++ List.replicate (2 - (lg_sl ([.int x, .int y])).length) Slot.unset).toArray = ls at hl ⊢
  have hl : lv_has ls 2 [(0, .int x), (1, .int y)] := hl
  refine lv_iload_n hx hb dX1_restOf_0 rfl (lv_at hl 0 rfl) ?_
  refine lv_iload_n hx hb dX1_restOf_1 rfl (lv_at hl 0 rfl) ?_
  refine lv_iload_n hx hb dX1_restOf_2 rfl (lv_at hl 1 rfl) ?_
  refine vp_callSi (va_Run.run (va_runS (As := [.int x, .int y]) (rest := [.int x]) ⟨hx, hb, hml, hown, hts⟩ (c_X1_nearest l x y (by assumption) (by assumption) (by assumption)) (va_cwS 2 hts gX1_restOf_X1_nearest rfl rfl rfl (by decide +kernel) ⟨Nat.le_of_ble_eq_true rfl, Nat.le_of_ble_eq_true rfl⟩) ⟨ny_blindT, fun U hU hW => ⟨rfl, trivial⟩⟩ rfl rfl hl.1 rfl (lv_room (Nat.le_of_ble_eq_true rfl)) dX1_restOf_3 ⟨Nat.le_of_ble_eq_true rfl, Nat.le_of_ble_eq_true rfl⟩)) (fun r_3 hw_3 => ?_)
  have hw_3 : r_3 = f_nr x y := hw_3
  subst hw_3
  refine lv_iload_n hx hb dX1_restOf_6 rfl (lv_at hl 1 rfl) ?_
  refine lv_imul hx hb dX1_restOf_7 ?_
  refine lv_isub hx hb dX1_restOf_8 ?_
  exact W.iret (v := x - ((f_nr x y) * y)) hx hb hr (fun t ht hW => ⟨x - ((f_nr x y) * y), rfl, (n_re gx gy g0), ht⟩) (fun q hq => absurd hq List.not_mem_nil) dX1_restOf_9
set_option maxHeartbeats 4000000 in
set_option maxRecDepth 100000 in
theorem c_X1_residueOf (l : Launch) (v : Int64) (y : Int32) (gy : ny_R y) (g0 : ¬ y = 0) (gv : -9223372036854775808 < v.toInt) : Met l yX1_residueOf wsX1_residueOf ({ frames := 1, cells := 0, slots := 0, locals := 24 }) (va_Pc [.long v, .int y] (fun _ => True)) (vp_Si (fun r => r = f_rs v y)) 0 0 (fun _ => False) := by
  refine Met.ofW (cc := cX1_residueOf) (maxL := 5) (ret := (some .int)) (by decide) rfl ?_
  intro p e s m args below meth c s₁ B hml hv
  obtain ⟨rfl, -⟩ := hv
  have hx := B.exec
  have hb := B.bytes
  have hr := B.returns
  have hts := atoms_spec (ws := wsX1_residueOf) B.pre
  have hown : s.vm.findClass RX1 = some m.cls := findClass_of_methodNamed B.named
  have hlocks := B.notSynchronized
  have hl := lv_entry ([.long v, .int y]) (n := 5) (Nat.le_of_ble_eq_true rfl)
  rw [lg_entry_eq]
  generalize (lg_sl ([.long v, .int y]) ++ List.replicate (5 - (lg_sl ([.long v, .int y])).length) Slot.unset).toArray = ls at hl ⊢
  have hl : lv_has ls 5 [(0, .long v), (2, .int y)] := hl
  refine lv_iload_n hx hb dX1_residueOf_0 rfl (lv_at hl 1 rfl) ?_
  refine va_mabs hx hb (hml.trans hl.1.symm) hown (hts (.methodLink RX1 65 Lib.Math.abs.name) (List.mem_of_getElem? (i := 1) rfl)) (hts (.static Lib.Math.abs.name) (List.mem_of_getElem? (i := 2) rfl)) (hts (.initialized "java/lang/Math") (List.mem_of_getElem? (i := 3) rfl)) (hts (.code Lib.Math.abs.name Lib.Math.abs.code 1 (some .int)) (List.mem_of_getElem? (i := 4) rfl)) (Nat.le_of_ble_eq_true rfl) (Nat.le_of_ble_eq_true rfl) (Nat.le_of_ble_eq_true rfl) (Nat.le_of_ble_eq_true rfl) dX1_residueOf_1 ?_
  refine W.eq (g2 := F0 m 4 ls [.int (ny_ab y)]) rfl ?_
  refine lv_topi (fun x3 e_x3 => ?_)
  have h3 : x3.toInt = (y.toInt.natAbs : Int) := by rw [e_x3, ny_ab_i (ny_R_lo gy)]
  have h3p : 0 < x3.toInt := by have := ny_nz0 g0; omega
  have h3q : x3.toInt ≤ 127 := by unfold ny_R at gy; omega
  refine lv_istore_n (lv' := [(3, .int x3), (0, .long v), (2, .int y)]) hx hb dX1_residueOf_4 rfl hl (by decide) rfl (fun ls hl => ?_)
  refine lv_iload_n hx hb dX1_residueOf_5 rfl (lv_at hl 0 rfl) ?_
  refine lv_if_ne (tgt := 11) hx hb dX1_residueOf_6 (by decide) (fun c_6 => ?_) (fun c_6 => absurd c_6 (show ¬ ((x3 : Int32) = 0) by  intro e; rw [e, ny_z0] at h3p; omega))
  refine lv_lload_n hx hb dX1_residueOf_11 rfl (lv_at hl 1 rfl) ?_
  refine lv_iload_n hx hb dX1_residueOf_12 rfl (lv_at hl 0 rfl) ?_
  refine lv_i2l hx hb dX1_residueOf_13 rfl ?_
  refine lv_lrem hx hb dX1_residueOf_14 (n_l0 (by omega)) ?_
  refine lv_l2i hx hb dX1_residueOf_15 rfl ?_
  refine lv_topi (fun x4 e_x4 => ?_)
  have h4 : x4.toInt = v.toInt.tmod x3.toInt := by rw [e_x4]; exact n_l2i gv h3p h3q
  refine lv_istore (lv' := [(4, .int x4), (3, .int x3), (0, .long v), (2, .int y)]) hx hb dX1_residueOf_16 hl (by decide) rfl (fun ls hl => ?_)
  refine lv_iconst (v := 2) hx hb dX1_residueOf_18 (by decide) ?_
  refine lv_iload hx hb dX1_residueOf_19 (lv_at hl 0 rfl) ?_
  refine lv_imul hx hb dX1_residueOf_21 ?_
  refine lv_iload_n hx hb dX1_residueOf_22 rfl (lv_at hl 1 rfl) ?_
  refine lv_icmp_le (tgt := 31) hx hb dX1_residueOf_23 (by decide) (fun c_23 => ?_) (fun c_23 => ?_)
  · refine lv_iconst (v := 2) hx hb dX1_residueOf_31 (by decide) ?_
    refine lv_iload hx hb dX1_residueOf_32 (lv_at hl 0 rfl) ?_
    refine lv_imul hx hb dX1_residueOf_34 ?_
    refine lv_iload_n hx hb dX1_residueOf_35 rfl (lv_at hl 1 rfl) ?_
    refine lv_ineg hx hb dX1_residueOf_36 ?_
    refine lv_icmp_gt (tgt := 47) hx hb dX1_residueOf_37 (by decide) (fun c_37 => ?_) (fun c_37 => ?_)
    · refine lv_iload hx hb dX1_residueOf_47 (lv_at hl 0 rfl) ?_
      exact W.iret (v := x4) hx hb hr (fun t ht hW => ⟨x4, rfl, (n_rs2 gy g0 h3 h4 c_23 c_37), ht⟩) (fun q hq => absurd hq List.not_mem_nil) dX1_residueOf_49
    · refine lv_iload hx hb dX1_residueOf_40 (lv_at hl 0 rfl) ?_
      refine lv_iload_n hx hb dX1_residueOf_42 rfl (lv_at hl 1 rfl) ?_
      refine lv_iadd hx hb dX1_residueOf_43 ?_
      refine lv_goto (tgt := 49) hx hb dX1_residueOf_44 (by decide) ?_
      exact W.iret (v := x4 + x3) hx hb hr (fun t ht hW => ⟨x4 + x3, rfl, (n_rs3 gy g0 h3 h4 c_37), ht⟩) (fun q hq => absurd hq List.not_mem_nil) dX1_residueOf_49
  · refine lv_iload hx hb dX1_residueOf_26 (lv_at hl 0 rfl) ?_
    refine lv_iload_n hx hb dX1_residueOf_28 rfl (lv_at hl 1 rfl) ?_
    refine lv_isub hx hb dX1_residueOf_29 ?_
    exact W.iret (v := x4 - x3) hx hb hr (fun t ht hW => ⟨x4 - x3, rfl, (n_rs1 gy g0 h3 h4 c_23), ht⟩) (fun q hq => absurd hq List.not_mem_nil) dX1_residueOf_30
set_option maxHeartbeats 4000000 in
set_option maxRecDepth 100000 in
theorem c_X1_isInverse (l : Launch) (a : Int32) (x : Int32) (y : Int32) (gy : ny_R y) (g0 : ¬ y = 0) : Met l yX1_isInverse wsX1_isInverse ({ frames := 2, cells := 0, slots := 0, locals := 48 }) (va_Pc [.int a, .int x, .int y] (fun _ => True)) (vp_Si (fun r => r = if f_rs (a * x).toInt64 y = f_rs 1 y then 1 else 0)) 0 0 (fun _ => False) := by
  refine Met.ofW (cc := cX1_isInverse) (maxL := 3) (ret := (some .boolean)) (by decide) rfl ?_
  intro p e s m args below meth c s₁ B hml hv
  obtain ⟨rfl, -⟩ := hv
  have hx := B.exec
  have hb := B.bytes
  have hr := B.returns
  have hts := atoms_spec (ws := wsX1_isInverse) B.pre
  have hown : s.vm.findClass RX1 = some m.cls := findClass_of_methodNamed B.named
  have hlocks := B.notSynchronized
  have hl := lv_entry ([.int a, .int x, .int y]) (n := 3) (Nat.le_of_ble_eq_true rfl)
  rw [lg_entry_eq]
  generalize (lg_sl ([.int a, .int x, .int y]) ++ List.replicate (3 - (lg_sl ([.int a, .int x, .int y])).length) Slot.unset).toArray = ls at hl ⊢
  have hl : lv_has ls 3 [(0, .int a), (1, .int x), (2, .int y)] := hl
  refine lv_iload_n hx hb dX1_isInverse_0 rfl (lv_at hl 0 rfl) ?_
  refine lv_iload_n hx hb dX1_isInverse_1 rfl (lv_at hl 1 rfl) ?_
  refine lv_imul hx hb dX1_isInverse_2 ?_
  refine lv_i2l hx hb dX1_isInverse_3 rfl ?_
  refine lv_iload_n hx hb dX1_isInverse_4 rfl (lv_at hl 2 rfl) ?_
  refine vp_callSi (va_Run.run (va_runS (As := [.long ((a * x).toInt64), .int y]) (rest := []) ⟨hx, hb, hml, hown, hts⟩ (c_X1_residueOf l ((a * x).toInt64) y (by assumption) (by assumption) (n_lo _)) (va_cwS 2 hts gX1_isInverse_X1_residueOf rfl rfl rfl (by decide +kernel) ⟨Nat.le_of_ble_eq_true rfl, Nat.le_of_ble_eq_true rfl⟩) ⟨ny_blindT, fun U hU hW => ⟨rfl, trivial⟩⟩ rfl rfl hl.1 rfl (lv_room (Nat.le_of_ble_eq_true rfl)) dX1_isInverse_5 ⟨Nat.le_of_ble_eq_true rfl, Nat.le_of_ble_eq_true rfl⟩)) (fun r_5 hw_5 => ?_)
  have hw_5 : r_5 = f_rs ((a * x).toInt64) y := hw_5
  subst hw_5
  refine lv_lconst (v := 1) hx hb dX1_isInverse_8 (by decide) ?_
  refine lv_iload_n hx hb dX1_isInverse_9 rfl (lv_at hl 2 rfl) ?_
  refine vp_callSi (va_Run.run (va_runS (As := [.long 1, .int y]) (rest := [.int (f_rs ((a * x).toInt64) y)]) ⟨hx, hb, hml, hown, hts⟩ (c_X1_residueOf l 1 y (by assumption) (by assumption) (by decide)) (va_cwS 2 hts gX1_isInverse_X1_residueOf rfl rfl rfl (by decide +kernel) ⟨Nat.le_of_ble_eq_true rfl, Nat.le_of_ble_eq_true rfl⟩) ⟨ny_blindT, fun U hU hW => ⟨rfl, trivial⟩⟩ rfl rfl hl.1 rfl (lv_room (Nat.le_of_ble_eq_true rfl)) dX1_isInverse_10 ⟨Nat.le_of_ble_eq_true rfl, Nat.le_of_ble_eq_true rfl⟩)) (fun r_10 hw_10 => ?_)
  have hw_10 : r_10 = f_rs 1 y := hw_10
  subst hw_10
  refine lv_icmp_ne (tgt := 20) hx hb dX1_isInverse_13 (by decide) (fun c_13 => ?_) (fun c_13 => ?_)
  · refine lv_iconst (v := 0) hx hb dX1_isInverse_20 (by decide) ?_
    exact W.zret (v := 0) hx hb hr (by decide) (fun t ht hW => ⟨0, rfl, (if_neg c_13).symm, ht⟩) (fun q hq => absurd hq List.not_mem_nil) dX1_isInverse_21
  · refine lv_iconst (v := 1) hx hb dX1_isInverse_16 (by decide) ?_
    refine lv_goto (tgt := 21) hx hb dX1_isInverse_17 (by decide) ?_
    exact W.zret (v := 1) hx hb hr (by decide) (fun t ht hW => ⟨1, rfl, (if_pos c_13).symm, ht⟩) (fun q hq => absurd hq List.not_mem_nil) dX1_isInverse_21
set_option maxHeartbeats 4000000 in
set_option maxRecDepth 100000 in
theorem c_J6_compare_7cf53 (l : Launch) (x : Int32) (y : Int32) : Met l yJ6_compare_7cf53 wsJ6_compare_7cf53 ({ frames := 0, cells := 0, slots := 0, locals := 0 }) (va_Pc [.int x, .int y] (fun _ => True)) (vp_Si (fun r => r = if x < y then -1 else if x = y then 0 else 1)) 0 0 (fun _ => False) := by
  refine Met.ofW (cc := cJ6_compare_7cf53) (maxL := 2) (ret := (some .int)) (by decide) rfl ?_
  intro p e s m args below meth c s₁ B hml hv
  obtain ⟨rfl, -⟩ := hv
  have hx := B.exec
  have hb := B.bytes
  have hr := B.returns
  have hts := atoms_spec (ws := wsJ6_compare_7cf53) B.pre
  have hown : s.vm.findClass RJ6 = some m.cls := findClass_of_methodNamed B.named
  have hlocks := B.notSynchronized
  have hl := lv_entry ([.int x, .int y]) (n := 2) (Nat.le_of_ble_eq_true rfl)
  rw [lg_entry_eq]
  generalize (lg_sl ([.int x, .int y]) ++ List.replicate (2 - (lg_sl ([.int x, .int y])).length) Slot.unset).toArray = ls at hl ⊢
  have hl : lv_has ls 2 [(0, .int x), (1, .int y)] := hl
  refine lv_iload_n hx hb dJ6_compare_7cf53_0 rfl (lv_at hl 0 rfl) ?_
  refine lv_iload_n hx hb dJ6_compare_7cf53_1 rfl (lv_at hl 1 rfl) ?_
  refine lv_icmp_ge (tgt := 9) hx hb dJ6_compare_7cf53_2 (by decide) (fun c_2 => ?_) (fun c_2 => ?_)
  · refine lv_iload_n hx hb dJ6_compare_7cf53_9 rfl (lv_at hl 0 rfl) ?_
    refine lv_iload_n hx hb dJ6_compare_7cf53_10 rfl (lv_at hl 1 rfl) ?_
    refine lv_icmp_ne (tgt := 18) hx hb dJ6_compare_7cf53_11 (by decide) (fun c_11 => ?_) (fun c_11 => ?_)
    · refine lv_iconst (v := 1) hx hb dJ6_compare_7cf53_18 (by decide) ?_
      exact W.iret (v := 1) hx hb hr (fun t ht hW => ⟨1, rfl, (n_cmp3 c_2 c_11), ht⟩) (fun q hq => absurd hq List.not_mem_nil) dJ6_compare_7cf53_19
    · refine lv_iconst (v := 0) hx hb dJ6_compare_7cf53_14 (by decide) ?_
      refine lv_goto (tgt := 19) hx hb dJ6_compare_7cf53_15 (by decide) ?_
      exact W.iret (v := 0) hx hb hr (fun t ht hW => ⟨0, rfl, (n_cmp2 c_2 c_11), ht⟩) (fun q hq => absurd hq List.not_mem_nil) dJ6_compare_7cf53_19
  · refine lv_iconst (v := -1) hx hb dJ6_compare_7cf53_5 (by decide) ?_
    refine lv_goto (tgt := 19) hx hb dJ6_compare_7cf53_6 (by decide) ?_
    exact W.iret (v := -1) hx hb hr (fun t ht hW => ⟨-1, rfl, (n_cmp1 c_2), ht⟩) (fun q hq => absurd hq List.not_mem_nil) dJ6_compare_7cf53_19
set_option maxHeartbeats 4000000 in
set_option maxRecDepth 100000 in
theorem c_X2_size (l : Launch) (x : Int32) : Met l yX2_size wsX2_size ({ frames := 0, cells := 0, slots := 0, locals := 0 }) (va_Pc [.int x] (fun _ => True)) (vp_Si (fun r => r = ny_ab x)) 0 0 (fun _ => False) := by
  refine Met.ofW (cc := cX2_size) (maxL := 1) (ret := (some .int)) (by decide) rfl ?_
  intro p e s m args below meth c s₁ B hml hv
  obtain ⟨rfl, -⟩ := hv
  have hx := B.exec
  have hb := B.bytes
  have hr := B.returns
  have hts := atoms_spec (ws := wsX2_size) B.pre
  have hown : s.vm.findClass RX2 = some m.cls := findClass_of_methodNamed B.named
  have hlocks := B.notSynchronized
  have hl := lv_entry ([.int x]) (n := 1) (Nat.le_of_ble_eq_true rfl)
  rw [lg_entry_eq]
  generalize (lg_sl ([.int x]) ++ List.replicate (1 - (lg_sl ([.int x])).length) Slot.unset).toArray = ls at hl ⊢
  have hl : lv_has ls 1 [(0, .int x)] := hl
  refine lv_iload_n hx hb dX2_size_0 rfl (lv_at hl 0 rfl) ?_
  refine lv_if_ge (tgt := 9) hx hb dX2_size_1 (by decide) (fun c_1 => ?_) (fun c_1 => ?_)
  · refine lv_iload_n hx hb dX2_size_9 rfl (lv_at hl 0 rfl) ?_
    exact W.iret (v := x) hx hb hr (fun t ht hW => ⟨x, rfl, (if_pos c_1).symm, ht⟩) (fun q hq => absurd hq List.not_mem_nil) dX2_size_10
  · refine lv_iload_n hx hb dX2_size_4 rfl (lv_at hl 0 rfl) ?_
    refine lv_ineg hx hb dX2_size_5 ?_
    refine lv_goto (tgt := 10) hx hb dX2_size_6 (by decide) ?_
    exact W.iret (v := -x) hx hb hr (fun t ht hW => ⟨-x, rfl, (by unfold ny_ab; rw [if_neg c_1, Int32.zero_sub]), ht⟩) (fun q hq => absurd hq List.not_mem_nil) dX2_size_10
set_option maxHeartbeats 4000000 in
set_option maxRecDepth 100000 in
theorem c_X2_isPlace (l : Launch) (i0 : Int32) (gp : vp_in i0 12) : Met l yX2_isPlace wsX2_isPlace ({ frames := 0, cells := 0, slots := 0, locals := 0 }) (va_Pc [.int i0] (fun _ => True)) (vp_Si (fun r => r = 1)) 0 0 (fun _ => False) := by
  refine Met.ofW (cc := cX2_isPlace) (maxL := 1) (ret := (some .boolean)) (by decide) rfl ?_
  intro p e s m args below meth c s₁ B hml hv
  obtain ⟨rfl, -⟩ := hv
  have hx := B.exec
  have hb := B.bytes
  have hr := B.returns
  have hts := atoms_spec (ws := wsX2_isPlace) B.pre
  have hown : s.vm.findClass RX2 = some m.cls := findClass_of_methodNamed B.named
  have hlocks := B.notSynchronized
  have hl := lv_entry ([.int i0]) (n := 1) (Nat.le_of_ble_eq_true rfl)
  rw [lg_entry_eq]
  generalize (lg_sl ([.int i0]) ++ List.replicate (1 - (lg_sl ([.int i0])).length) Slot.unset).toArray = ls at hl ⊢
  have hl : lv_has ls 1 [(0, .int i0)] := hl
  refine lv_iload_n hx hb dX2_isPlace_0 rfl (lv_at hl 0 rfl) ?_
  refine lv_if_lt (tgt := 14) hx hb dX2_isPlace_1 (by decide) (fun c_1 => absurd c_1 (show ¬ ((i0 : Int32) < 0) from n_p0 gp)) (fun c_1 => ?_)
  refine lv_iload_n hx hb dX2_isPlace_4 rfl (lv_at hl 0 rfl) ?_
  refine lv_bipush (v := 12) hx hb dX2_isPlace_5 (by decide) ?_
  refine lv_icmp_ge (tgt := 14) hx hb dX2_isPlace_7 (by decide) (fun c_7 => absurd c_7 (show ¬ ((12 : Int32) ≤ i0) from n_p1 gp)) (fun c_7 => ?_)
  refine lv_iconst (v := 1) hx hb dX2_isPlace_10 (by decide) ?_
  refine lv_goto (tgt := 15) hx hb dX2_isPlace_11 (by decide) ?_
  exact W.zret (v := 1) hx hb hr (by decide) (fun t ht hW => ⟨1, rfl, (rfl), ht⟩) (fun q hq => absurd hq List.not_mem_nil) dX2_isPlace_15
set_option maxHeartbeats 4000000 in
set_option maxRecDepth 100000 in
theorem c_X2_isPlace_no (l : Launch) (i0 : Int32) (gp : ¬ vp_in i0 12) : Met l yX2_isPlace wsX2_isPlace ({ frames := 0, cells := 0, slots := 0, locals := 0 }) (va_Pc [.int i0] (fun _ => True)) (vp_Si (fun r => r = 0)) 0 0 (fun _ => False) := by
  refine Met.ofW (cc := cX2_isPlace) (maxL := 1) (ret := (some .boolean)) (by decide) rfl ?_
  intro p e s m args below meth c s₁ B hml hv
  obtain ⟨rfl, -⟩ := hv
  have hx := B.exec
  have hb := B.bytes
  have hr := B.returns
  have hts := atoms_spec (ws := wsX2_isPlace) B.pre
  have hown : s.vm.findClass RX2 = some m.cls := findClass_of_methodNamed B.named
  have hlocks := B.notSynchronized
  have hl := lv_entry ([.int i0]) (n := 1) (Nat.le_of_ble_eq_true rfl)
  rw [lg_entry_eq]
  generalize (lg_sl ([.int i0]) ++ List.replicate (1 - (lg_sl ([.int i0])).length) Slot.unset).toArray = ls at hl ⊢
  have hl : lv_has ls 1 [(0, .int i0)] := hl
  refine lv_iload_n hx hb dX2_isPlace_0 rfl (lv_at hl 0 rfl) ?_
  refine lv_if_lt (tgt := 14) hx hb dX2_isPlace_1 (by decide) (fun c_1 => ?_) (fun c_1 => ?_)
  · refine lv_iconst (v := 0) hx hb dX2_isPlace_14 (by decide) ?_
    exact W.zret (v := 0) hx hb hr (by decide) (fun t ht hW => ⟨0, rfl, (rfl), ht⟩) (fun q hq => absurd hq List.not_mem_nil) dX2_isPlace_15
  · refine lv_iload_n hx hb dX2_isPlace_4 rfl (lv_at hl 0 rfl) ?_
    refine lv_bipush (v := 12) hx hb dX2_isPlace_5 (by decide) ?_
    refine lv_icmp_ge (tgt := 14) hx hb dX2_isPlace_7 (by decide) (fun c_7 => ?_) (fun c_7 => absurd (show (12 : Int32) ≤ i0 from n_p2 gp c_1) c_7)
    refine lv_iconst (v := 0) hx hb dX2_isPlace_14 (by decide) ?_
    exact W.zret (v := 0) hx hb hr (by decide) (fun t ht hW => ⟨0, rfl, (rfl), ht⟩) (fun q hq => absurd hq List.not_mem_nil) dX2_isPlace_15

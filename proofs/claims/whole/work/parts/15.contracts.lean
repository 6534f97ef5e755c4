/-! EUCLID BY CONTRACT, and what stands on it: measures, inverses, digits. -/
theorem n_lt7 {k : Nat} (h : k ≤ 7) (c : ¬ 7 ≤ nI k) : k < 7 := by
  rw [fa_le, nI_toInt (by omega)] at c
  have z : (7 : Int32).toInt = 7 := rfl
  omega
theorem n_ge7 {k : Nat} (h : k ≤ 7) (c : 7 ≤ nI k) : 7 ≤ k := by
  rw [fa_le, nI_toInt (by omega)] at c
  have z : (7 : Int32).toInt = 7 := rfl
  omega
theorem n_hjS {x z : Int} {k : Nat} (hj : ∀ j, j < k → (ma_eu x z j).2 ≠ 0) (h : (ma_eu x z k).2 ≠ 0) : ∀ j, j < k + 1 → (ma_eu x z j).2 ≠ 0 := by
  intro j hjk
  rcases Nat.lt_or_ge j k with q | q
  · exact hj j q
  · have : j = k := by omega
    rw [this]
    exact h
theorem n_cl {i : Int32} (h : 0 ≤ i.toInt) : (i.toNatClampNeg : Int) = i.toInt := by
  have : i.toNatClampNeg = i.toInt.toNat := rfl
  omega
theorem n_shC {i : Int32} {k : Nat} (hk : k ≤ 7) (h : 0 ≤ i.toInt) (c : ¬ i ≤ nI k) : k < i.toNatClampNeg := by
  have := n_cl h
  rw [fa_le, nI_toInt (by omega)] at c
  omega
theorem n_shE {i : Int32} {k : Nat} (hk : k ≤ 7) (hk2 : k ≤ i.toNatClampNeg) (h : 0 ≤ i.toInt) (c : i ≤ nI k) : k = i.toNatClampNeg := by
  have := n_cl h
  rw [fa_le, nI_toInt (by omega)] at c
  omega
theorem n_gdA {x z : Int32} (gz : ny_R z) (gx : ny_R x) : ny_ab (f_la x z) = f_gd x z := by
  have h1 := ma_eu_last (x := x.toInt) (n_R127 gz)
  obtain ⟨⟨h2, h3⟩, h4⟩ := ma_ln_ok (x := x.toInt) (n_R127 gz)
  have h5 := n_euR (n_R127 gx) (n_R127 gz) _ h2
  have h6 : (f_la x z).toInt = (ma_eu x.toInt z.toInt (ma_ln x.toInt z.toInt)).1 := n_oi (n := (ma_eu x.toInt z.toInt (ma_ln x.toInt z.toInt)).1) (by omega) (by omega)
  refine ny_eqI ?_
  rw [ny_ab_i (by omega), h6, h1]
  exact (n_oi (by omega) (by omega)).symm
theorem n_gdI {x z : Int32} (gz : ny_R z) (gx : ny_R x) : (f_gd x z).toInt = (Int.gcd x.toInt z.toInt : Nat) ∧ Int.gcd x.toInt z.toInt ≤ 127 := by
  have h7 : Int.gcd x.toInt z.toInt ≤ 127 := by
    by_cases h : x.toInt ≠ 0 ∨ z.toInt ≠ 0
    · exact n_gle h (n_R127 gx) (n_R127 gz)
    · have h1 : x.toInt = 0 := by omega
      have h2 : z.toInt = 0 := by omega
      rw [h1, h2]
      decide
  exact ⟨n_oi (by omega) (by omega), h7⟩
theorem n_R_gd {x z : Int32} (gz : ny_R z) (gx : ny_R x) : ny_R (f_gd x z) := by
  have := n_gdI gz gx
  unfold ny_R
  omega
theorem n_gd0 {x z : Int32} (gz : ny_R z) (gx : ny_R x) (g0 : ¬ z = 0) : ¬ f_gd x z = 0 := by
  intro e
  have h1 := n_gdI gz gx
  rw [e, ny_z0] at h1
  have h2 := n_gpos (x := x.toInt) (z := z.toInt) (Or.inr (ny_nz0 g0))
  omega
theorem n_lnI {x z : Int32} (gz : ny_R z) : f_ln x z ≤ 7 := (ma_ln_ok (n_R127 gz)).2
theorem n_lnT {x z : Int32} (gz : ny_R z) : (nI (f_ln x z)).toInt = f_ln x z := nI_toInt (by have := n_lnI (x := x) gz; omega)
theorem n_lnP {x z : Int32} (gz : ny_R z) (g0 : ¬ z = 0) : 1 ≤ f_ln x z := n_lnp (n_R127 gz) (ny_nz0 g0)
theorem n_v1 {x y : Int32} {sr : Nat → Int32} (gy : ny_R y) (g0 : ¬ y = 0) : ((f_sh (f_row sr x y (f_ln x y)) 1 0 (nI (f_ln x y - 1)).toNatClampNeg).2).toInt = (ma_sh (ma_dg x.toInt y.toInt) 1 0 (ma_ln x.toInt y.toInt)).1 := by
  have h1 := n_lnI (x := x) gy
  have h2 := n_lnP (x := x) gy g0
  have h3 := n_shb (x := x.toInt) (n_R127 gy) (ny_nz0 g0)
  have h4 := n_shR (rf := sr) (x := x) (z := y) (b := 1) (w := 0) (k := f_ln x y - 1) (n := f_ln x y) (by omega)
  rw [nI_clamp (by omega)]
  obtain ⟨k, hk⟩ : ∃ k, ma_ln x.toInt y.toInt = k + 1 := ⟨f_ln x y - 1, by show f_ln x y = _; omega⟩
  have hk2 : f_ln x y - 1 = k := by show ma_ln x.toInt y.toInt - 1 = k; omega
  rw [hk2] at h4 ⊢
  have h5 : f_sh (f_row sr x y (f_ln x y)) 1 0 k = _ := h4
  rw [h5]
  rw [hk] at h3 ⊢
  exact n_oi (n := (ma_sh (ma_dg x.toInt y.toInt) 1 0 (k + 1)).1) (by omega) (by omega)
theorem n_if0 {P : Prop} [Decidable P] : (if P then (1 : Int32) else 0) = 0 ↔ ¬ P := by
  by_cases h : P
  · rw [if_pos h]
    exact ⟨fun e => absurd e (by decide), fun q => absurd h q⟩
  · rw [if_neg h]
    exact ⟨fun _ => h, fun _ => rfl⟩
theorem n_rsI {v w : Int64} {y : Int32} (gy : ny_R y) (g0 : ¬ y = 0) : f_rs v y = f_rs w y ↔ ma_rs v.toInt y.toInt = ma_rs w.toInt y.toInt := by
  rw [fa_eq, f_rs_i gy g0, f_rs_i gy g0]
theorem n_ivA {x y a : Int32} (gx : ny_R x) (gy : ny_R y) (g0 : ¬ y = 0) (ga : ny_R a) (ha : ma_rs a.toInt y.toInt = a.toInt) : f_rs (a * x).toInt64 y = f_rs 1 y ↔ ma_IV x.toInt y.toInt a.toInt := by
  have h1 := n_pr (n_R127 ga) (n_R127 gx)
  have h2 : (a * x).toInt64.toInt = x.toInt * a.toInt := by
    rw [Int32.toInt_toInt64, fb_mulI (by omega) (by omega), Int.mul_comm]
  rw [n_rsI gy g0, h2]
  exact ⟨fun h => ⟨ha, h⟩, fun h => h.2⟩
theorem n_rsC {v : Int64} {y : Int32} (gy : ny_R y) (g0 : ¬ y = 0) : ma_rs (f_rs v y).toInt y.toInt = (f_rs v y).toInt := by
  rw [f_rs_i gy g0]
  exact ma_rs_congr (ny_nz0 g0) (ma_rs_sub (ny_nz0 g0))
theorem n_iv1 {x y : Int32} {v : Int64} (gx : ny_R x) (gy : ny_R y) (g0 : ¬ y = 0) (h : ¬ (if f_rs (f_rs v y * x).toInt64 y = f_rs 1 y then (1 : Int32) else 0) = 0) : f_rs v y = f_iv x y := by
  rw [n_if0, Decidable.not_not, n_ivA gx gy g0 (ny_R_rs gy g0) (n_rsC gy g0)] at h
  have h1 := ny_R_rs (v := v) gy g0
  refine ny_eqI ?_
  unfold ny_R at h1
  rw [f_iv_i, n_ivF_some (ny_nz0 g0) h 255 (by omega) (by omega)]
theorem n_ivN {x y v1 : Int32} (gx : ny_R x) (gy : ny_R y) (g0 : ¬ y = 0) (hv : v1.toInt = (ma_sh (ma_dg x.toInt y.toInt) 1 0 (ma_ln x.toInt y.toInt)).1) (h1 : (if f_rs (f_rs v1.toInt64 y * x).toInt64 y = f_rs 1 y then (1 : Int32) else 0) = 0) (h2 : (if f_rs (f_rs (-f_rs v1.toInt64 y).toInt64 y * x).toInt64 y = f_rs 1 y then (1 : Int32) else 0) = 0) : (128 : Int32) = f_iv x y := by
  have h0 := ny_nz0 g0
  rw [n_if0, n_ivA gx gy g0 (ny_R_rs gy g0) (n_rsC gy g0)] at h1 h2
  have hr1 : (f_rs v1.toInt64 y).toInt = ma_rs v1.toInt y.toInt := by rw [f_rs_i gy g0, Int32.toInt_toInt64]
  have hR := ny_R_rs (v := v1.toInt64) gy g0
  have hr2 : (f_rs (-f_rs v1.toInt64 y).toInt64 y).toInt = ma_rs (-ma_rs v1.toInt y.toInt) y.toInt := by
    rw [f_rs_i gy g0, Int32.toInt_toInt64, fb_negI (by unfold ny_R at hR; omega), hr1]
  have hg : ¬ Int.gcd x.toInt y.toInt = 1 := by
    intro hg
    rw [hr1] at h1
    rw [hr2] at h2
    have hd := ma_rs_sub (v := v1.toInt) h0
    rcases n_inv (n_R127 gy) hg with q | q
    · rw [← hv] at q
      refine h1 ⟨ma_rs_congr h0 hd, ma_rs_congr h0 ?_⟩
      have e : x.toInt * ma_rs v1.toInt y.toInt - 1 = x.toInt * (ma_rs v1.toInt y.toInt - v1.toInt) + (x.toInt * v1.toInt - 1) := by rw [Int.mul_sub]; omega
      rw [e]
      exact Int.dvd_add (Int.dvd_mul_of_dvd_right hd) q
    · rw [← hv] at q
      have hd2 := ma_rs_sub (v := -ma_rs v1.toInt y.toInt) h0
      refine h2 ⟨ma_rs_congr h0 hd2, ma_rs_congr h0 ?_⟩
      generalize ma_rs (-ma_rs v1.toInt y.toInt) y.toInt = r2 at hd2 ⊢
      generalize ma_rs v1.toInt y.toInt = r1 at hd hd2 ⊢
      have e : x.toInt * r2 - 1 = x.toInt * (r2 - -r1) - x.toInt * (r1 - v1.toInt) - (x.toInt * v1.toInt + 1) := by rw [Int.mul_sub, Int.mul_sub, Int.mul_neg]; omega
      rw [e]
      exact Int.dvd_sub (Int.dvd_sub (Int.dvd_mul_of_dvd_right hd2) (Int.dvd_mul_of_dvd_right hd)) q
  unfold f_iv
  rw [n_ivF_none (fun r q => hg (n_IVg h0 q)) 255]
  decide
theorem in_X0_takeRests_X0 : ∀ w ∈ wsX00, w ∈ wsX0_takeRests := (fun _ h => List.mem_cons_of_mem _ (List.mem_append_left _ (List.mem_append_left _ (List.mem_append_right _ h))))
set_option maxHeartbeats 4000000 in
set_option maxRecDepth 100000 in
theorem c_X0_takeRests (l : Launch) (D : va_G) (cI : ClassId) (qe : Nat) (qr : Nat) (sz : Nat) (rf : Nat → Int32) (ec : Int32) (el : Int32) (ee : Int32) (i0 : Int32) (i1 : Int32) (gx : ny_R i0) (gy : ny_R i1) : Met l yX0_takeRests wsX0_takeRests ({ frames := 2, cells := 0, slots := 0, locals := 48 }) (va_Pc [.ref qe, .int i0, .int i1] (ny_pre D [(cI, .int)] [(qe, .inr (2, [.ref qr, .int ec, .int el, .int ee])), (qr, .inl (cI, 7, .inl rf))] sz)) (va_Qv (fun (u : Unit) => True) (fun (u : Unit) t => ny_at D [(cI, .int)] (va_A [(qe, .inr (2, [.ref qr, .int ec, .int el, .int ee])), (qr, .inl (cI, 7, .inl rf))] sz) [(qe, .inr (2, [.ref qr, .int (nI (f_ln i0 i1)), .int (f_la i0 i1), .int 1])), (qr, .inl (cI, 7, .inl (f_row rf i0 i1 (f_ln i0 i1))))] t) (va_A [(qe, .inr (2, [.ref qr, .int ec, .int el, .int ee])), (qr, .inl (cI, 7, .inl rf))] sz)) 0 0 (va_A [(qe, .inr (2, [.ref qr, .int ec, .int el, .int ee])), (qr, .inl (cI, 7, .inl rf))] sz) := by
  refine Met.ofW (cc := cX0_takeRests) (maxL := 6) (ret := none) (by decide) rfl ?_
  intro p e s m args below meth c s₁ B hml hv
  obtain ⟨rfl, hsz, hP, hK, hD0, hE⟩ := hv
  have hx := B.exec
  have hb := B.bytes
  have hr := B.returns
  have hts := atoms_spec (ws := wsX0_takeRests) B.pre
  have hown : s.vm.findClass RX0 = some m.cls := findClass_of_methodNamed B.named
  have hlocks := B.notSynchronized
  subst hsz
  have hD := hD0.self (sz := s.heap.size)
  generalize hAe : va_A [(qe, .inr (2, [.ref qr, .int ec, .int el, .int ee])), (qr, .inl (cI, 7, .inl rf))] s.heap.size = A at hD hE ⊢
  have hA : ∀ q : Nat, s.heap.size ≤ q → A q := fun q h => by rw [← hAe]; exact Or.inr h
  have hS : va_S A s.heap s.heap [] := va_S.rf
  have hl := lv_entry ([.ref qe, .int i0, .int i1]) (n := 6) (Nat.le_of_ble_eq_true rfl)
  rw [lg_entry_eq]
  generalize (lg_sl ([.ref qe, .int i0, .int i1]) ++ List.replicate (6 - (lg_sl ([.ref qe, .int i0, .int i1])).length) Slot.unset).toArray = ls at hl ⊢
  have hl : lv_has ls 6 [(0, .ref qe), (1, .int i0), (2, .int i1)] := hl
  refine lv_iload_n hx hb dX0_takeRests_0 rfl (lv_at hl 2 rfl) ?_
  refine ny_ti (x2 := Int32.ofInt (ma_eu i0.toInt i1.toInt 0).2) ((fb_asI i1).symm) ?_
  refine lv_istore_n (lv' := [(3, .int (Int32.ofInt (ma_eu i0.toInt i1.toInt 0).2)), (0, .ref qe), (1, .int i0), (2, .int i1)]) hx hb dX0_takeRests_1 rfl hl (by decide) rfl (fun ls hl => ?_)
  refine lv_aload_n hx hb dX0_takeRests_2 rfl (lv_at hl 1 rfl) ?_
  refine lv_iload_n hx hb dX0_takeRests_3 rfl (lv_at hl 2 rfl) ?_
  refine ny_ti (x2 := Int32.ofInt (ma_eu i0.toInt i1.toInt 0).1) ((fb_asI i0).symm) ?_
  refine va_put (D := D) (ci := 2) (v := .int (Int32.ofInt (ma_eu i0.toInt i1.toInt 0).1)) (ty := .int) (C := RX0) (T := TX0) (N := 4) hx hb hts in_X0_takeRests_X0 tyX0 tyX0_ok nmX0 hown hK hP hD hS 0 rfl rfl 2 (by decide) (hts (.fieldLink RX0 15 "Nearestclock$Euclid" "last" "I") (List.mem_of_getElem? (i := 1) rfl)) (fun _ h9 => h9) rfl (by decide +kernel) rfl rfl (Nat.le_of_ble_eq_true rfl) dX0_takeRests_4 (fun H locs hP hD hS => ?_)
  have hP : va_P D vwCl [(qe, .inr (2, [.ref qr, .int ec, .int (Int32.ofInt (ma_eu i0.toInt i1.toInt 0).1), .int ee])), (qr, .inl (cI, 7, .inl rf))] H := hP
  have hD : va_D A [(qe, .inr (2, [.ref qr, .int ec, .int (Int32.ofInt (ma_eu i0.toInt i1.toInt 0).1), .int ee])), (qr, .inl (cI, 7, .inl rf))] := hD
  refine lv_aload_n hx hb dX0_takeRests_7 rfl (lv_at hl 1 rfl) ?_
  refine lv_iconst (v := 0) hx hb dX0_takeRests_8 (by decide) ?_
  refine ny_ti (x2 := nI 0) (rfl) ?_
  refine va_put (D := D) (ci := 2) (v := .int (nI 0)) (ty := .int) (C := RX0) (T := TX0) (N := 4) hx hb hts in_X0_takeRests_X0 tyX0 tyX0_ok nmX0 hown hK hP hD hS 0 rfl rfl 1 (by decide) (hts (.fieldLink RX0 19 "Nearestclock$Euclid" "count" "I") (List.mem_of_getElem? (i := 2) rfl)) (fun _ h9 => h9) rfl (by decide +kernel) rfl rfl (Nat.le_of_ble_eq_true rfl) dX0_takeRests_9 (fun H locs hP hD hS => ?_)
  have hP : va_P D vwCl [(qe, .inr (2, [.ref qr, .int (nI 0), .int (Int32.ofInt (ma_eu i0.toInt i1.toInt 0).1), .int ee])), (qr, .inl (cI, 7, .inl rf))] H := hP
  have hD : va_D A [(qe, .inr (2, [.ref qr, .int (nI 0), .int (Int32.ofInt (ma_eu i0.toInt i1.toInt 0).1), .int ee])), (qr, .inl (cI, 7, .inl rf))] := hD
  have hP : va_P D vwCl [(qe, .inr (2, [.ref qr, .int (nI 0), .int (Int32.ofInt (ma_eu i0.toInt i1.toInt 0).1), .int ee])), (qr, .inl (cI, 7, .inl (f_row rf i0 i1 0)))] H := by rw [f_row0]; exact hP
  have hD : va_D A [(qe, .inr (2, [.ref qr, .int (nI 0), .int (Int32.ofInt (ma_eu i0.toInt i1.toInt 0).1), .int ee])), (qr, .inl (cI, 7, .inl (f_row rf i0 i1 0)))] := by rw [f_row0]; exact hD
  refine ny_lw 12 6 (fun u : Nat => u ≤ 7 ∧ (∀ j, j < u → (ma_eu i0.toInt i1.toInt j).2 ≠ 0)) (fun u => 7 - u) (fun u => [(0, .ref qe), (1, .int i0), (2, .int i1), (3, .int (Int32.ofInt (ma_eu i0.toInt i1.toInt u).2))]) (fun u => [(qe, .inr (2, [.ref qr, .int (nI u), .int (Int32.ofInt (ma_eu i0.toInt i1.toInt u).1), .int ee])), (qr, .inl (cI, 7, .inl (f_row rf i0 i1 u)))]) (fun u hu ih ls H locs hl hP hD hS => ?_) 0 (show 0 ≤ 7 ∧ (∀ j, j < 0 → (ma_eu i0.toInt i1.toInt j).2 ≠ 0) from ⟨by decide, fun j hj => absurd hj (Nat.not_lt_zero j)⟩) (lv_sub hl [1, 2, 3, 0] rfl) (hP.sub (ws' := [(qe, .inr (2, [.ref qr, .int (nI 0), .int (Int32.ofInt (ma_eu i0.toInt i1.toInt 0).1), .int ee])), (qr, .inl (cI, 7, .inl (f_row rf i0 i1 0)))]) [0, 1] rfl) (hD.sub (ws' := [(qe, .inr (2, [.ref qr, .int (nI 0), .int (Int32.ofInt (ma_eu i0.toInt i1.toInt 0).1), .int ee])), (qr, .inl (cI, 7, .inl (f_row rf i0 i1 0)))]) [0, 1] (by decide) rfl) hS
  obtain ⟨k, rfl⟩ : ∃ z, z = u := ⟨_, rfl⟩
  obtain ⟨hk, hj⟩ : k ≤ 7 ∧ (∀ j, j < k → (ma_eu i0.toInt i1.toInt j).2 ≠ 0) := hu
  have hl : lv_has ls 6 [(0, .ref qe), (1, .int i0), (2, .int i1), (3, .int (Int32.ofInt (ma_eu i0.toInt i1.toInt k).2))] := hl
  have hP : va_P D vwCl [(qe, .inr (2, [.ref qr, .int (nI k), .int (Int32.ofInt (ma_eu i0.toInt i1.toInt k).1), .int ee])), (qr, .inl (cI, 7, .inl (f_row rf i0 i1 k)))] H := hP
  have hD : va_D A [(qe, .inr (2, [.ref qr, .int (nI k), .int (Int32.ofInt (ma_eu i0.toInt i1.toInt k).1), .int ee])), (qr, .inl (cI, 7, .inl (f_row rf i0 i1 k)))] := hD
  obtain ⟨hr1, hr2⟩ := n_euR (n_R127 gx) (n_R127 gy) k hj
  refine lv_iload_n hx hb dX0_takeRests_12 rfl (lv_at hl 3 rfl) ?_
  refine lv_if_eq (tgt := 81) hx hb dX0_takeRests_13 (by decide) (fun c_13 => ?_) (fun c_13 => ?_)
  · have hke : k = f_ln i0 i1 := ma_ln_end (n_R127 gy) hj (Or.inl ((n_eu0 hr2).mp c_13))
    subst hke
    refine lv_aload_n hx hb dX0_takeRests_81 rfl (lv_at hl 0 rfl) ?_
    refine lv_iload_n hx hb dX0_takeRests_82 rfl (lv_at hl 3 rfl) ?_
    refine lv_if_ne (tgt := 90) hx hb dX0_takeRests_83 (by decide) (fun c_83 => absurd (show ((Int32.ofInt (ma_eu i0.toInt i1.toInt (f_ln i0 i1)).2) : Int32) = 0 from (n_eu0 hr2).mpr (ma_ln_ok (n_R127 gy)).1.2) c_83) (fun c_83 => ?_)
    refine lv_iconst (v := 1) hx hb dX0_takeRests_86 (by decide) ?_
    refine lv_goto (tgt := 91) hx hb dX0_takeRests_87 (by decide) ?_
    refine va_put (D := D) (ci := 2) (v := .int 1) (ty := .boolean) (C := RX0) (T := TX0) (N := 4) hx hb hts in_X0_takeRests_X0 tyX0 tyX0_ok nmX0 hown hK hP hD hS 0 rfl rfl 3 (by decide) (hts (.fieldLink RX0 26 "Nearestclock$Euclid" "isAtEnd" "Z") (List.mem_of_getElem? (i := 4) rfl)) (fun _ h9 => h9) rfl (by decide +kernel) (by decide) (by decide) (Nat.le_of_ble_eq_true rfl) dX0_takeRests_91 (fun H locs hP hD hS => ?_)
    have hP : va_P D vwCl [(qe, .inr (2, [.ref qr, .int (nI (f_ln i0 i1)), .int (Int32.ofInt (ma_eu i0.toInt i1.toInt (f_ln i0 i1)).1), .int 1])), (qr, .inl (cI, 7, .inl (f_row rf i0 i1 (f_ln i0 i1))))] H := hP
    have hD : va_D A [(qe, .inr (2, [.ref qr, .int (nI (f_ln i0 i1)), .int (Int32.ofInt (ma_eu i0.toInt i1.toInt (f_ln i0 i1)).1), .int 1])), (qr, .inl (cI, 7, .inl (f_row rf i0 i1 (f_ln i0 i1))))] := hD
    have hP9 := hP.sub (ws' := [(qe, .inr (2, [.ref qr, .int (nI (f_ln i0 i1)), .int (Int32.ofInt (ma_eu i0.toInt i1.toInt (f_ln i0 i1)).1), .int 1])), (qr, .inl (cI, 7, .inl (f_row rf i0 i1 (f_ln i0 i1))))]) [0, 1] rfl
    have hD9 := hD.sub (ws' := [(qe, .inr (2, [.ref qr, .int (nI (f_ln i0 i1)), .int (Int32.ofInt (ma_eu i0.toInt i1.toInt (f_ln i0 i1)).1), .int 1])), (qr, .inl (cI, 7, .inl (f_row rf i0 i1 (f_ln i0 i1))))]) [0, 1] (by decide) rfl
    exact W.vret hx hb hr (fun t ht hW => ⟨⟨(), rfl, (trivial), by rw [ht]; exact hP9, va_K.moved hW.alike hK, hD9⟩, hS.F ht⟩) hS.2.2 dX0_takeRests_94
  · refine lv_aload_n hx hb dX0_takeRests_16 rfl (lv_at hl 0 rfl) ?_
    refine va_get (D := D) (ci := 2) (v := .int (nI k)) (C := RX0) (T := TX0) (N := 4) hx hb hts in_X0_takeRests_X0 hown hK hP 0 rfl rfl 1 (by decide) (hts (.fieldLink RX0 19 "Nearestclock$Euclid" "count" "I") (List.mem_of_getElem? (i := 2) rfl)) (fun _ h9 => h9) rfl dX0_takeRests_17 ?_
    refine lv_aload_n hx hb dX0_takeRests_20 rfl (lv_at hl 0 rfl) ?_
    refine va_get (D := D) (ci := 2) (v := .ref qr) (C := RX0) (T := TX0) (N := 4) hx hb hts in_X0_takeRests_X0 hown hK hP 0 rfl rfl 0 (by decide) (hts (.fieldLink RX0 9 "Nearestclock$Euclid" "row" "[I") (List.mem_of_getElem? (i := 3) rfl)) (fun _ h9 => h9) rfl dX0_takeRests_21 ?_
    refine va_alen hx hb hK hP 1 0 rfl rfl (v := 7) rfl dX0_takeRests_24 ?_
    refine lv_icmp_ge (tgt := 81) hx hb dX0_takeRests_25 (by decide) (fun c_25 => ?_) (fun c_25 => ?_)
    · have hke : k = f_ln i0 i1 := ma_ln_end (n_R127 gy) hj (Or.inr (n_ge7 hk c_25))
      subst hke
      refine lv_aload_n hx hb dX0_takeRests_81 rfl (lv_at hl 0 rfl) ?_
      refine lv_iload_n hx hb dX0_takeRests_82 rfl (lv_at hl 3 rfl) ?_
      refine lv_if_ne (tgt := 90) hx hb dX0_takeRests_83 (by decide) (fun c_83 => absurd (show ((Int32.ofInt (ma_eu i0.toInt i1.toInt (f_ln i0 i1)).2) : Int32) = 0 from (n_eu0 hr2).mpr (ma_ln_ok (n_R127 gy)).1.2) c_83) (fun c_83 => ?_)
      refine lv_iconst (v := 1) hx hb dX0_takeRests_86 (by decide) ?_
      refine lv_goto (tgt := 91) hx hb dX0_takeRests_87 (by decide) ?_
      refine va_put (D := D) (ci := 2) (v := .int 1) (ty := .boolean) (C := RX0) (T := TX0) (N := 4) hx hb hts in_X0_takeRests_X0 tyX0 tyX0_ok nmX0 hown hK hP hD hS 0 rfl rfl 3 (by decide) (hts (.fieldLink RX0 26 "Nearestclock$Euclid" "isAtEnd" "Z") (List.mem_of_getElem? (i := 4) rfl)) (fun _ h9 => h9) rfl (by decide +kernel) (by decide) (by decide) (Nat.le_of_ble_eq_true rfl) dX0_takeRests_91 (fun H locs hP hD hS => ?_)
      have hP : va_P D vwCl [(qe, .inr (2, [.ref qr, .int (nI (f_ln i0 i1)), .int (Int32.ofInt (ma_eu i0.toInt i1.toInt (f_ln i0 i1)).1), .int 1])), (qr, .inl (cI, 7, .inl (f_row rf i0 i1 (f_ln i0 i1))))] H := hP
      have hD : va_D A [(qe, .inr (2, [.ref qr, .int (nI (f_ln i0 i1)), .int (Int32.ofInt (ma_eu i0.toInt i1.toInt (f_ln i0 i1)).1), .int 1])), (qr, .inl (cI, 7, .inl (f_row rf i0 i1 (f_ln i0 i1))))] := hD
      have hP9 := hP.sub (ws' := [(qe, .inr (2, [.ref qr, .int (nI (f_ln i0 i1)), .int (Int32.ofInt (ma_eu i0.toInt i1.toInt (f_ln i0 i1)).1), .int 1])), (qr, .inl (cI, 7, .inl (f_row rf i0 i1 (f_ln i0 i1))))]) [0, 1] rfl
      have hD9 := hD.sub (ws' := [(qe, .inr (2, [.ref qr, .int (nI (f_ln i0 i1)), .int (Int32.ofInt (ma_eu i0.toInt i1.toInt (f_ln i0 i1)).1), .int 1])), (qr, .inl (cI, 7, .inl (f_row rf i0 i1 (f_ln i0 i1))))]) [0, 1] (by decide) rfl
      exact W.vret hx hb hr (fun t ht hW => ⟨⟨(), rfl, (trivial), by rw [ht]; exact hP9, va_K.moved hW.alike hK, hD9⟩, hS.F ht⟩) hS.2.2 dX0_takeRests_94
    · have hk2 := n_lt7 hk c_25
      refine lv_aload_n hx hb dX0_takeRests_28 rfl (lv_at hl 0 rfl) ?_
      refine va_get (D := D) (ci := 2) (v := .int (Int32.ofInt (ma_eu i0.toInt i1.toInt k).1)) (C := RX0) (T := TX0) (N := 4) hx hb hts in_X0_takeRests_X0 hown hK hP 0 rfl rfl 2 (by decide) (hts (.fieldLink RX0 15 "Nearestclock$Euclid" "last" "I") (List.mem_of_getElem? (i := 1) rfl)) (fun _ h9 => h9) rfl dX0_takeRests_29 ?_
      refine lv_iload_n hx hb dX0_takeRests_32 rfl (lv_at hl 3 rfl) ?_
      refine vp_callSi (va_Run.run (va_runSN (As := [.int (Int32.ofInt (ma_eu i0.toInt i1.toInt k).1), .int (Int32.ofInt (ma_eu i0.toInt i1.toInt k).2)]) (rest := []) ⟨hx, hb, hml, hown, hts⟩ (c_X1_nearest l (Int32.ofInt (ma_eu i0.toInt i1.toInt k).1) (Int32.ofInt (ma_eu i0.toInt i1.toInt k).2) (n_Rof hr1) (n_Rof hr2) (by assumption)) ⟨va_cnB 2 hts gX0_takeRests_X1_nearest_n22 rfl rfl rfl (hE.2.2.2.1 (RX0, 22, yX1_nearest) (List.mem_of_getElem? (i := 4) rfl)) (hts (.initialized RX1) (List.mem_of_getElem? (i := 6) rfl)) (by decide +kernel) ⟨Nat.le_of_ble_eq_true rfl, Nat.le_of_ble_eq_true rfl⟩, (hts (.static yX1_nearest) (List.mem_of_getElem? (i := 5) rfl)), trivial⟩ ⟨ny_blindT, fun U hU hW => ⟨rfl, trivial⟩⟩ rfl rfl hl.1 rfl (lv_room (Nat.le_of_ble_eq_true rfl)) dX0_takeRests_33 ⟨Nat.le_of_ble_eq_true rfl, Nat.le_of_ble_eq_true rfl⟩)) (fun r_33 hw_33 => ?_)
      have hw_33 : r_33 = f_nr (Int32.ofInt (ma_eu i0.toInt i1.toInt k).1) (Int32.ofInt (ma_eu i0.toInt i1.toInt k).2) := hw_33
      subst hw_33
      refine ny_ti (x2 := f_dg i0 i1 k) (n_dgI ⟨hr1, hr2⟩) ?_
      refine lv_istore (lv' := [(4, .int (f_dg i0 i1 k)), (0, .ref qe), (1, .int i0), (2, .int i1), (3, .int (Int32.ofInt (ma_eu i0.toInt i1.toInt k).2))]) hx hb dX0_takeRests_36 hl (by decide) rfl (fun ls hl => ?_)
      refine lv_aload_n hx hb dX0_takeRests_38 rfl (lv_at hl 1 rfl) ?_
      refine va_get (D := D) (ci := 2) (v := .int (Int32.ofInt (ma_eu i0.toInt i1.toInt k).1)) (C := RX0) (T := TX0) (N := 4) hx hb hts in_X0_takeRests_X0 hown hK hP 0 rfl rfl 2 (by decide) (hts (.fieldLink RX0 15 "Nearestclock$Euclid" "last" "I") (List.mem_of_getElem? (i := 1) rfl)) (fun _ h9 => h9) rfl dX0_takeRests_39 ?_
      refine lv_iload hx hb dX0_takeRests_42 (lv_at hl 0 rfl) ?_
      refine lv_iload_n hx hb dX0_takeRests_44 rfl (lv_at hl 4 rfl) ?_
      refine lv_imul hx hb dX0_takeRests_45 ?_
      refine lv_isub hx hb dX0_takeRests_46 ?_
      refine ny_ti (x2 := Int32.ofInt (ma_eu i0.toInt i1.toInt (k + 1)).2) (n_euI i0 i1 k) ?_
      refine lv_istore (lv' := [(5, .int (Int32.ofInt (ma_eu i0.toInt i1.toInt (k + 1)).2)), (4, .int (f_dg i0 i1 k)), (0, .ref qe), (1, .int i0), (2, .int i1), (3, .int (Int32.ofInt (ma_eu i0.toInt i1.toInt k).2))]) hx hb dX0_takeRests_47 hl (by decide) rfl (fun ls hl => ?_)
      refine lv_aload_n hx hb dX0_takeRests_49 rfl (lv_at hl 2 rfl) ?_
      refine va_get (D := D) (ci := 2) (v := .ref qr) (C := RX0) (T := TX0) (N := 4) hx hb hts in_X0_takeRests_X0 hown hK hP 0 rfl rfl 0 (by decide) (hts (.fieldLink RX0 9 "Nearestclock$Euclid" "row" "[I") (List.mem_of_getElem? (i := 3) rfl)) (fun _ h9 => h9) rfl dX0_takeRests_50 ?_
      refine lv_aload_n hx hb dX0_takeRests_53 rfl (lv_at hl 2 rfl) ?_
      refine va_get (D := D) (ci := 2) (v := .int (nI k)) (C := RX0) (T := TX0) (N := 4) hx hb hts in_X0_takeRests_X0 hown hK hP 0 rfl rfl 1 (by decide) (hts (.fieldLink RX0 19 "Nearestclock$Euclid" "count" "I") (List.mem_of_getElem? (i := 2) rfl)) (fun _ h9 => h9) rfl dX0_takeRests_54 ?_
      refine lv_iload hx hb dX0_takeRests_57 (lv_at hl 1 rfl) ?_
      refine va_iast hx hb hK hP hD hS 1 0 rfl rfl (vp_in_nI hk2 (by decide)) dX0_takeRests_59 (fun H locs hP hD hS => ?_)
      have hP : va_P D vwCl [(qe, .inr (2, [.ref qr, .int (nI k), .int (Int32.ofInt (ma_eu i0.toInt i1.toInt k).1), .int ee])), (qr, .inl (cI, 7, .inl (upd (f_row rf i0 i1 k) (nI k).toNatClampNeg (f_dg i0 i1 k))))] H := hP
      have hD : va_D A [(qe, .inr (2, [.ref qr, .int (nI k), .int (Int32.ofInt (ma_eu i0.toInt i1.toInt k).1), .int ee])), (qr, .inl (cI, 7, .inl (upd (f_row rf i0 i1 k) (nI k).toNatClampNeg (f_dg i0 i1 k))))] := hD
      refine lv_aload_n hx hb dX0_takeRests_60 rfl (lv_at hl 2 rfl) ?_
      refine lv_dup hx hb dX0_takeRests_61 rfl ?_
      refine va_get (D := D) (ci := 2) (v := .int (nI k)) (C := RX0) (T := TX0) (N := 4) hx hb hts in_X0_takeRests_X0 hown hK hP 0 rfl rfl 1 (by decide) (hts (.fieldLink RX0 19 "Nearestclock$Euclid" "count" "I") (List.mem_of_getElem? (i := 2) rfl)) (fun _ h9 => h9) rfl dX0_takeRests_62 ?_
      refine lv_iconst (v := 1) hx hb dX0_takeRests_65 (by decide) ?_
      refine lv_iadd hx hb dX0_takeRests_66 ?_
      refine ny_ti (x2 := nI (k + 1)) (nI_1 k) ?_
      refine va_put (D := D) (ci := 2) (v := .int (nI (k + 1))) (ty := .int) (C := RX0) (T := TX0) (N := 4) hx hb hts in_X0_takeRests_X0 tyX0 tyX0_ok nmX0 hown hK hP hD hS 0 rfl rfl 1 (by decide) (hts (.fieldLink RX0 19 "Nearestclock$Euclid" "count" "I") (List.mem_of_getElem? (i := 2) rfl)) (fun _ h9 => h9) rfl (by decide +kernel) rfl rfl (Nat.le_of_ble_eq_true rfl) dX0_takeRests_67 (fun H locs hP hD hS => ?_)
      have hP : va_P D vwCl [(qe, .inr (2, [.ref qr, .int (nI (k + 1)), .int (Int32.ofInt (ma_eu i0.toInt i1.toInt k).1), .int ee])), (qr, .inl (cI, 7, .inl (upd (f_row rf i0 i1 k) (nI k).toNatClampNeg (f_dg i0 i1 k))))] H := hP
      have hD : va_D A [(qe, .inr (2, [.ref qr, .int (nI (k + 1)), .int (Int32.ofInt (ma_eu i0.toInt i1.toInt k).1), .int ee])), (qr, .inl (cI, 7, .inl (upd (f_row rf i0 i1 k) (nI k).toNatClampNeg (f_dg i0 i1 k))))] := hD
      refine lv_aload_n hx hb dX0_takeRests_70 rfl (lv_at hl 2 rfl) ?_
      refine lv_iload_n hx hb dX0_takeRests_71 rfl (lv_at hl 5 rfl) ?_
      refine ny_ti (x2 := Int32.ofInt (ma_eu i0.toInt i1.toInt (k + 1)).1) (rfl) ?_
      refine va_put (D := D) (ci := 2) (v := .int (Int32.ofInt (ma_eu i0.toInt i1.toInt (k + 1)).1)) (ty := .int) (C := RX0) (T := TX0) (N := 4) hx hb hts in_X0_takeRests_X0 tyX0 tyX0_ok nmX0 hown hK hP hD hS 0 rfl rfl 2 (by decide) (hts (.fieldLink RX0 15 "Nearestclock$Euclid" "last" "I") (List.mem_of_getElem? (i := 1) rfl)) (fun _ h9 => h9) rfl (by decide +kernel) rfl rfl (Nat.le_of_ble_eq_true rfl) dX0_takeRests_72 (fun H locs hP hD hS => ?_)
      have hP : va_P D vwCl [(qe, .inr (2, [.ref qr, .int (nI (k + 1)), .int (Int32.ofInt (ma_eu i0.toInt i1.toInt (k + 1)).1), .int ee])), (qr, .inl (cI, 7, .inl (upd (f_row rf i0 i1 k) (nI k).toNatClampNeg (f_dg i0 i1 k))))] H := hP
      have hD : va_D A [(qe, .inr (2, [.ref qr, .int (nI (k + 1)), .int (Int32.ofInt (ma_eu i0.toInt i1.toInt (k + 1)).1), .int ee])), (qr, .inl (cI, 7, .inl (upd (f_row rf i0 i1 k) (nI k).toNatClampNeg (f_dg i0 i1 k))))] := hD
      refine lv_iload hx hb dX0_takeRests_75 (lv_at hl 0 rfl) ?_
      refine lv_istore_n (lv' := [(3, .int (Int32.ofInt (ma_eu i0.toInt i1.toInt (k + 1)).2)), (5, .int (Int32.ofInt (ma_eu i0.toInt i1.toInt (k + 1)).2)), (4, .int (f_dg i0 i1 k)), (0, .ref qe), (1, .int i0), (2, .int i1)]) hx hb dX0_takeRests_77 rfl hl (by decide) rfl (fun ls hl => ?_)
      refine lv_goto (tgt := 12) hx hb dX0_takeRests_78 (by decide) ?_
      rw [f_rowSI rf i0 i1 (show k < 2 ^ 31 by omega)] at hP hD
      exact ih (k + 1) (show (k + 1) ≤ 7 ∧ (∀ j, j < (k + 1) → (ma_eu i0.toInt i1.toInt j).2 ≠ 0) from ⟨by omega, n_hjS hj (fun q => c_13 ((n_eu0 hr2).mpr q))⟩) (show 7 - (k + 1) < 7 - k by omega) _ _ _ (lv_sub hl [3, 4, 5, 0] rfl) (hP.sub (ws' := [(qe, .inr (2, [.ref qr, .int (nI (k + 1)), .int (Int32.ofInt (ma_eu i0.toInt i1.toInt (k + 1)).1), .int ee])), (qr, .inl (cI, 7, .inl (f_row rf i0 i1 (k + 1))))]) [0, 1] rfl) (hD.sub (ws' := [(qe, .inr (2, [.ref qr, .int (nI (k + 1)), .int (Int32.ofInt (ma_eu i0.toInt i1.toInt (k + 1)).1), .int ee])), (qr, .inl (cI, 7, .inl (f_row rf i0 i1 (k + 1))))]) [0, 1] (by decide) rfl) hS
theorem in_X0_shareOf_X0 : ∀ w ∈ wsX00, w ∈ wsX0_shareOf := (fun _ h => List.mem_cons_of_mem _ (List.mem_append_left _ (List.mem_append_right _ h)))
set_option maxHeartbeats 4000000 in
set_option maxRecDepth 100000 in
theorem c_X0_shareOf (l : Launch) (D : va_G) (cI : ClassId) (qe : Nat) (qr : Nat) (sz : Nat) (rf : Nat → Int32) (ec : Int32) (el : Int32) (ee : Int32) (i0 : Int32) (i1 : Int32) (i2 : Int32) (gn : 0 ≤ i0.toInt) (gc : i0 ≤ ec) (g7 : ec.toInt ≤ 7) : Met l yX0_shareOf wsX0_shareOf ({ frames := 0, cells := 0, slots := 0, locals := 0 }) (va_Pc [.ref qe, .int i0, .int i1, .int i2] (ny_pre D [(cI, .int)] [(qe, .inr (2, [.ref qr, .int ec, .int el, .int ee])), (qr, .inl (cI, 7, .inl rf))] sz)) (vp_Si (fun r => r = (f_sh rf i1 i2 i0.toNatClampNeg).2)) 0 0 (fun _ => False) := by
  refine Met.ofW (cc := cX0_shareOf) (maxL := 8) (ret := (some .int)) (by decide) rfl ?_
  intro p e s m args below meth c s₁ B hml hv
  obtain ⟨rfl, hsz, hP, hK, hD0, hE⟩ := hv
  have hx := B.exec
  have hb := B.bytes
  have hr := B.returns
  have hts := atoms_spec (ws := wsX0_shareOf) B.pre
  have hown : s.vm.findClass RX0 = some m.cls := findClass_of_methodNamed B.named
  have hlocks := B.notSynchronized
  subst hsz
  have hD := hD0.self (sz := s.heap.size)
  generalize hAe : va_A [(qe, .inr (2, [.ref qr, .int ec, .int el, .int ee])), (qr, .inl (cI, 7, .inl rf))] s.heap.size = A at hD hE
  have hA : ∀ q : Nat, s.heap.size ≤ q → A q := fun q h => by rw [← hAe]; exact Or.inr h
  have hS : va_S A s.heap s.heap [] := va_S.rf
  have hl := lv_entry ([.ref qe, .int i0, .int i1, .int i2]) (n := 8) (Nat.le_of_ble_eq_true rfl)
  rw [lg_entry_eq]
  generalize (lg_sl ([.ref qe, .int i0, .int i1, .int i2]) ++ List.replicate (8 - (lg_sl ([.ref qe, .int i0, .int i1, .int i2])).length) Slot.unset).toArray = ls at hl ⊢
  have hl : lv_has ls 8 [(0, .ref qe), (1, .int i0), (2, .int i1), (3, .int i2)] := hl
  refine lv_iload_n hx hb dX0_shareOf_0 rfl (lv_at hl 2 rfl) ?_
  refine ny_ti (x2 := (f_sh rf i1 i2 0).1) (rfl) ?_
  refine lv_istore (lv' := [(4, .int ((f_sh rf i1 i2 0).1)), (0, .ref qe), (1, .int i0), (2, .int i1), (3, .int i2)]) hx hb dX0_shareOf_1 hl (by decide) rfl (fun ls hl => ?_)
  refine lv_iload_n hx hb dX0_shareOf_3 rfl (lv_at hl 4 rfl) ?_
  refine ny_ti (x2 := (f_sh rf i1 i2 0).2) (rfl) ?_
  refine lv_istore (lv' := [(5, .int ((f_sh rf i1 i2 0).2)), (4, .int ((f_sh rf i1 i2 0).1)), (0, .ref qe), (1, .int i0), (2, .int i1), (3, .int i2)]) hx hb dX0_shareOf_4 hl (by decide) rfl (fun ls hl => ?_)
  refine lv_iconst (v := 0) hx hb dX0_shareOf_6 (by decide) ?_
  refine ny_ti (x2 := nI 0) (rfl) ?_
  refine lv_istore (lv' := [(6, .int (nI 0)), (5, .int ((f_sh rf i1 i2 0).2)), (4, .int ((f_sh rf i1 i2 0).1)), (0, .ref qe), (1, .int i0), (2, .int i1), (3, .int i2)]) hx hb dX0_shareOf_7 hl (by decide) rfl (fun ls hl => ?_)
  refine ny_lp 9 8 (fun u : Nat => u ≤ i0.toNatClampNeg) (fun u => i0.toNatClampNeg - u) (fun u => [(0, .ref qe), (1, .int i0), (2, .int i1), (3, .int i2), (4, .int ((f_sh rf i1 i2 u).1)), (5, .int ((f_sh rf i1 i2 u).2)), (6, .int (nI u))]) (fun u hu ih ls hl => ?_) 0 (show 0 ≤ i0.toNatClampNeg from Nat.zero_le _) (lv_sub hl [3, 4, 5, 6, 2, 1, 0] rfl)
  obtain ⟨k, rfl⟩ : ∃ z, z = u := ⟨_, rfl⟩
  have hk : k ≤ i0.toNatClampNeg := hu
  have hl : lv_has ls 8 [(0, .ref qe), (1, .int i0), (2, .int i1), (3, .int i2), (4, .int ((f_sh rf i1 i2 k).1)), (5, .int ((f_sh rf i1 i2 k).2)), (6, .int (nI k))] := hl
  have hk7 : k ≤ 7 := by have := n_cl gn; rw [fa_le] at gc; omega
  refine lv_iload hx hb dX0_shareOf_9 (lv_at hl 6 rfl) ?_
  refine lv_iload_n hx hb dX0_shareOf_11 rfl (lv_at hl 1 rfl) ?_
  refine lv_icmp_ge (tgt := 53) hx hb dX0_shareOf_12 (by decide) (fun c_12 => ?_) (fun c_12 => ?_)
  · refine lv_iload hx hb dX0_shareOf_53 (lv_at hl 5 rfl) ?_
    exact W.iret (v := (f_sh rf i1 i2 k).2) hx hb hr (fun t ht hW => ⟨(f_sh rf i1 i2 k).2, rfl, (by rw [n_shE hk7 hk gn c_12]), ht⟩) (fun q hq => absurd hq List.not_mem_nil) dX0_shareOf_55
  · have hk2 := n_shC hk7 gn c_12
    refine lv_iload hx hb dX0_shareOf_15 (lv_at hl 6 rfl) ?_
    refine lv_aload_n hx hb dX0_shareOf_17 rfl (lv_at hl 0 rfl) ?_
    refine va_get (D := D) (ci := 2) (v := .int ec) (C := RX0) (T := TX0) (N := 4) hx hb hts in_X0_shareOf_X0 hown hK hP 0 rfl rfl 1 (by decide) (hts (.fieldLink RX0 19 "Nearestclock$Euclid" "count" "I") (List.mem_of_getElem? (i := 1) rfl)) (fun _ h9 => h9) rfl dX0_shareOf_18 ?_
    refine lv_icmp_ge (tgt := 53) hx hb dX0_shareOf_21 (by decide) (fun c_21 => absurd c_21 (show ¬ ((ec : Int32) ≤ (nI k)) by  have := n_cl gn; rw [fa_le, nI_toInt (by omega)]; rw [fa_le] at gc; omega)) (fun c_21 => ?_)
    refine lv_aload_n hx hb dX0_shareOf_24 rfl (lv_at hl 0 rfl) ?_
    refine va_get (D := D) (ci := 2) (v := .ref qr) (C := RX0) (T := TX0) (N := 4) hx hb hts in_X0_shareOf_X0 hown hK hP 0 rfl rfl 0 (by decide) (hts (.fieldLink RX0 9 "Nearestclock$Euclid" "row" "[I") (List.mem_of_getElem? (i := 2) rfl)) (fun _ h9 => h9) rfl dX0_shareOf_25 ?_
    refine lv_iload hx hb dX0_shareOf_28 (lv_at hl 6 rfl) ?_
    refine va_iald hx hb hK hP 1 0 rfl rfl (vp_in_nI (by have := n_cl gn; rw [fa_le] at gc; omega) (by decide)) dX0_shareOf_30 ?_
    refine lv_iload hx hb dX0_shareOf_31 (lv_at hl 5 rfl) ?_
    refine lv_imul hx hb dX0_shareOf_33 ?_
    refine lv_iload hx hb dX0_shareOf_34 (lv_at hl 4 rfl) ?_
    refine lv_iadd hx hb dX0_shareOf_36 ?_
    refine ny_ti (x2 := (f_sh rf i1 i2 (k + 1)).2) (f_shS rf i1 i2 (by omega)) ?_
    refine lv_istore (lv' := [(7, .int ((f_sh rf i1 i2 (k + 1)).2)), (0, .ref qe), (1, .int i0), (2, .int i1), (3, .int i2), (4, .int ((f_sh rf i1 i2 k).1)), (5, .int ((f_sh rf i1 i2 k).2)), (6, .int (nI k))]) hx hb dX0_shareOf_37 hl (by decide) rfl (fun ls hl => ?_)
    refine lv_iload hx hb dX0_shareOf_39 (lv_at hl 6 rfl) ?_
    refine ny_ti (x2 := (f_sh rf i1 i2 (k + 1)).1) (rfl) ?_
    refine lv_istore (lv' := [(4, .int ((f_sh rf i1 i2 (k + 1)).1)), (7, .int ((f_sh rf i1 i2 (k + 1)).2)), (0, .ref qe), (1, .int i0), (2, .int i1), (3, .int i2), (5, .int ((f_sh rf i1 i2 k).2)), (6, .int (nI k))]) hx hb dX0_shareOf_41 hl (by decide) rfl (fun ls hl => ?_)
    refine lv_iload hx hb dX0_shareOf_43 (lv_at hl 1 rfl) ?_
    refine lv_istore (lv' := [(5, .int ((f_sh rf i1 i2 (k + 1)).2)), (4, .int ((f_sh rf i1 i2 (k + 1)).1)), (7, .int ((f_sh rf i1 i2 (k + 1)).2)), (0, .ref qe), (1, .int i0), (2, .int i1), (3, .int i2), (6, .int (nI k))]) hx hb dX0_shareOf_45 hl (by decide) rfl (fun ls hl => ?_)
    refine lv_iinc (v := nI (k + 1)) (lv' := [(6, .int (nI (k + 1))), (5, .int ((f_sh rf i1 i2 (k + 1)).2)), (4, .int ((f_sh rf i1 i2 (k + 1)).1)), (7, .int ((f_sh rf i1 i2 (k + 1)).2)), (0, .ref qe), (1, .int i0), (2, .int i1), (3, .int i2)]) hx hb dX0_shareOf_47 hl (k := 7) rfl (n_incN k) (by decide) rfl (fun ls hl => ?_)
    refine lv_goto (tgt := 9) hx hb dX0_shareOf_50 (by decide) ?_
    exact ih (k + 1) (show (k + 1) ≤ i0.toNatClampNeg from by omega) (show i0.toNatClampNeg - (k + 1) < i0.toNatClampNeg - k by omega) _ (lv_sub hl [4, 5, 6, 7, 2, 1, 0] rfl)
set_option maxHeartbeats 4000000 in
set_option maxRecDepth 100000 in
theorem c_X0_aboveLine (l : Launch) (D : va_G) (cI : ClassId) (qe : Nat) (qr : Nat) (sz : Nat) (rf : Nat → Int32) (ec : Int32) (el : Int32) (ee : Int32) (i0 : Int32) (gn : 0 ≤ i0.toInt) (gc : i0 ≤ ec) (g7 : ec.toInt ≤ 7) : Met l yX0_aboveLine wsX0_aboveLine ({ frames := 1, cells := 0, slots := 0, locals := 27 }) (va_Pc [.ref qe, .int i0] (ny_pre D [(cI, .int)] [(qe, .inr (2, [.ref qr, .int ec, .int el, .int ee])), (qr, .inl (cI, 7, .inl rf))] sz)) (vp_Si (fun r => r = (f_sh rf 0 1 i0.toNatClampNeg).2)) 0 0 (fun _ => False) := by
  refine Met.ofW (cc := cX0_aboveLine) (maxL := 2) (ret := (some .int)) (by decide) rfl ?_
  intro p e s m args below meth c s₁ B hml hv
  obtain ⟨rfl, hsz, hP, hK, hD0, hE⟩ := hv
  have hx := B.exec
  have hb := B.bytes
  have hr := B.returns
  have hts := atoms_spec (ws := wsX0_aboveLine) B.pre
  have hown : s.vm.findClass RX0 = some m.cls := findClass_of_methodNamed B.named
  have hlocks := B.notSynchronized
  subst hsz
  have hD := hD0.self (sz := s.heap.size)
  generalize hAe : va_A [(qe, .inr (2, [.ref qr, .int ec, .int el, .int ee])), (qr, .inl (cI, 7, .inl rf))] s.heap.size = A at hD hE
  have hA : ∀ q : Nat, s.heap.size ≤ q → A q := fun q h => by rw [← hAe]; exact Or.inr h
  have hS : va_S A s.heap s.heap [] := va_S.rf
  have hl := lv_entry ([.ref qe, .int i0]) (n := 2) (Nat.le_of_ble_eq_true rfl)
  rw [lg_entry_eq]
  generalize (lg_sl ([.ref qe, .int i0]) ++ List.replicate (2 - (lg_sl ([.ref qe, .int i0])).length) Slot.unset).toArray = ls at hl ⊢
  have hl : lv_has ls 2 [(0, .ref qe), (1, .int i0)] := hl
  refine lv_aload_n hx hb dX0_aboveLine_0 rfl (lv_at hl 0 rfl) ?_
  refine lv_iload_n hx hb dX0_aboveLine_1 rfl (lv_at hl 1 rfl) ?_
  refine lv_iconst (v := 0) hx hb dX0_aboveLine_2 (by decide) ?_
  refine lv_iconst (v := 1) hx hb dX0_aboveLine_3 (by decide) ?_
  refine vp_callSi (va_Run.run (va_runV (As := [.int i0, .int 0, .int 1]) (rest := []) ⟨hx, hb, hml, hown, hts⟩ (c_X0_shareOf l D cI qe qr s.heap.size rf ec el ee i0 0 1 (by assumption) (by assumption) (by assumption)) (cwV 3 hts gX0_aboveLine_X0_shareOf rfl rfl rfl (by decide +kernel) ⟨Nat.le_of_ble_eq_true rfl, Nat.le_of_ble_eq_true rfl⟩) ⟨ny_blind, va_recv hK hP (ci := 2) (q0 := 0) rfl rfl, fun U hU hW => ⟨rfl, ny_preU hE hP hK hD hS hA [0, 1] rfl (by decide) rfl [0] rfl U hU hW⟩⟩ rfl rfl hl.1 rfl (lv_room (Nat.le_of_ble_eq_true rfl)) dX0_aboveLine_4 ⟨Nat.le_of_ble_eq_true rfl, Nat.le_of_ble_eq_true rfl⟩)) (fun r_4 hw_4 => ?_)
  have hw_4 : r_4 = (f_sh rf 0 1 i0.toNatClampNeg).2 := hw_4
  subst hw_4
  exact W.iret (v := (f_sh rf 0 1 i0.toNatClampNeg).2) hx hb hr (fun t ht hW => ⟨(f_sh rf 0 1 i0.toNatClampNeg).2, rfl, (rfl), ht⟩) (fun q hq => absurd hq List.not_mem_nil) dX0_aboveLine_7
set_option maxHeartbeats 4000000 in
set_option maxRecDepth 100000 in
theorem c_X0_belowLine (l : Launch) (D : va_G) (cI : ClassId) (qe : Nat) (qr : Nat) (sz : Nat) (rf : Nat → Int32) (ec : Int32) (el : Int32) (ee : Int32) (i0 : Int32) (gn : 0 ≤ i0.toInt) (gc : i0 ≤ ec) (g7 : ec.toInt ≤ 7) : Met l yX0_belowLine wsX0_belowLine ({ frames := 1, cells := 0, slots := 0, locals := 27 }) (va_Pc [.ref qe, .int i0] (ny_pre D [(cI, .int)] [(qe, .inr (2, [.ref qr, .int ec, .int el, .int ee])), (qr, .inl (cI, 7, .inl rf))] sz)) (vp_Si (fun r => r = (f_sh rf 1 0 i0.toNatClampNeg).2)) 0 0 (fun _ => False) := by
  refine Met.ofW (cc := cX0_belowLine) (maxL := 2) (ret := (some .int)) (by decide) rfl ?_
  intro p e s m args below meth c s₁ B hml hv
  obtain ⟨rfl, hsz, hP, hK, hD0, hE⟩ := hv
  have hx := B.exec
  have hb := B.bytes
  have hr := B.returns
  have hts := atoms_spec (ws := wsX0_belowLine) B.pre
  have hown : s.vm.findClass RX0 = some m.cls := findClass_of_methodNamed B.named
  have hlocks := B.notSynchronized
  subst hsz
  have hD := hD0.self (sz := s.heap.size)
  generalize hAe : va_A [(qe, .inr (2, [.ref qr, .int ec, .int el, .int ee])), (qr, .inl (cI, 7, .inl rf))] s.heap.size = A at hD hE
  have hA : ∀ q : Nat, s.heap.size ≤ q → A q := fun q h => by rw [← hAe]; exact Or.inr h
  have hS : va_S A s.heap s.heap [] := va_S.rf
  have hl := lv_entry ([.ref qe, .int i0]) (n := 2) (Nat.le_of_ble_eq_true rfl)
  rw [lg_entry_eq]
  generalize (lg_sl ([.ref qe, .int i0]) ++ List.replicate (2 - (lg_sl ([.ref qe, .int i0])).length) Slot.unset).toArray = ls at hl ⊢
  have hl : lv_has ls 2 [(0, .ref qe), (1, .int i0)] := hl
  refine lv_aload_n hx hb dX0_belowLine_0 rfl (lv_at hl 0 rfl) ?_
  refine lv_iload_n hx hb dX0_belowLine_1 rfl (lv_at hl 1 rfl) ?_
  refine lv_iconst (v := 1) hx hb dX0_belowLine_2 (by decide) ?_
  refine lv_iconst (v := 0) hx hb dX0_belowLine_3 (by decide) ?_
  refine vp_callSi (va_Run.run (va_runV (As := [.int i0, .int 1, .int 0]) (rest := []) ⟨hx, hb, hml, hown, hts⟩ (c_X0_shareOf l D cI qe qr s.heap.size rf ec el ee i0 1 0 (by assumption) (by assumption) (by assumption)) (cwV 3 hts gX0_belowLine_X0_shareOf rfl rfl rfl (by decide +kernel) ⟨Nat.le_of_ble_eq_true rfl, Nat.le_of_ble_eq_true rfl⟩) ⟨ny_blind, va_recv hK hP (ci := 2) (q0 := 0) rfl rfl, fun U hU hW => ⟨rfl, ny_preU hE hP hK hD hS hA [0, 1] rfl (by decide) rfl [0] rfl U hU hW⟩⟩ rfl rfl hl.1 rfl (lv_room (Nat.le_of_ble_eq_true rfl)) dX0_belowLine_4 ⟨Nat.le_of_ble_eq_true rfl, Nat.le_of_ble_eq_true rfl⟩)) (fun r_4 hw_4 => ?_)
  have hw_4 : r_4 = (f_sh rf 1 0 i0.toNatClampNeg).2 := hw_4
  subst hw_4
  exact W.iret (v := (f_sh rf 1 0 i0.toNatClampNeg).2) hx hb hr (fun t ht hW => ⟨(f_sh rf 1 0 i0.toNatClampNeg).2, rfl, (rfl), ht⟩) (fun q hq => absurd hq List.not_mem_nil) dX0_belowLine_7
theorem in_X1_measureOf_X0 : ∀ w ∈ wsX00, w ∈ wsX1_measureOf := (fun _ h => List.mem_cons_of_mem _ (List.mem_append_left _ (List.mem_append_left _ (List.mem_append_right _ h))))
theorem in_X1_measureOf_X1 : ∀ w ∈ wsX10, w ∈ wsX1_measureOf := (fun _ h => List.mem_cons_of_mem _ (List.mem_append_left _ (List.mem_append_left _ (List.mem_append_left _ (List.mem_append_right _ h)))))
set_option maxHeartbeats 4000000 in
set_option maxRecDepth 100000 in
theorem c_X1_measureOf (l : Launch) (D : va_G) (cI : ClassId) (o : Nat) (q1 : Nat) (q2 : Nat) (q3 : Nat) (q4 : Nat) (q6 : Nat) (sz : Nat) (sr : Nat → Int32) (sc : Int32) (sl : Int32) (se : Int32) (i0 : Int32) (i1 : Int32) (gx : ny_R i0) (gy : ny_R i1) : Met l yX1_measureOf wsX1_measureOf ({ frames := 3, cells := 0, slots := 0, locals := 73 }) (va_Pc [.ref o, .int i0, .int i1] (ny_pre D [(cI, .int)] [(o, .inr (3, [.ref q1, .ref q2, .ref q3, .ref q4])), (q4, .inr (2, [.ref q6, .int sc, .int sl, .int se])), (q6, .inl (cI, 7, .inl sr))] sz)) (va_Qi (fun (r : Int32) (u : Unit) => r = f_gd i0 i1) (fun (u : Unit) t => ny_at D [(cI, .int)] (va_A [(o, .inr (3, [.ref q1, .ref q2, .ref q3, .ref q4])), (q4, .inr (2, [.ref q6, .int sc, .int sl, .int se])), (q6, .inl (cI, 7, .inl sr))] sz) [(o, .inr (3, [.ref q1, .ref q2, .ref q3, .ref q4])), (q4, .inr (2, [.ref q6, .int (nI (f_ln i0 i1)), .int (f_la i0 i1), .int 1])), (q6, .inl (cI, 7, .inl (f_row sr i0 i1 (f_ln i0 i1))))] t) (va_A [(o, .inr (3, [.ref q1, .ref q2, .ref q3, .ref q4])), (q4, .inr (2, [.ref q6, .int sc, .int sl, .int se])), (q6, .inl (cI, 7, .inl sr))] sz)) 0 0 (va_A [(o, .inr (3, [.ref q1, .ref q2, .ref q3, .ref q4])), (q4, .inr (2, [.ref q6, .int sc, .int sl, .int se])), (q6, .inl (cI, 7, .inl sr))] sz) := by
  refine Met.ofW (cc := cX1_measureOf) (maxL := 3) (ret := (some .int)) (by decide) rfl ?_
  intro p e s m args below meth c s₁ B hml hv
  obtain ⟨rfl, hsz, hP, hK, hD0, hE⟩ := hv
  have hx := B.exec
  have hb := B.bytes
  have hr := B.returns
  have hts := atoms_spec (ws := wsX1_measureOf) B.pre
  have hown : s.vm.findClass RX1 = some m.cls := findClass_of_methodNamed B.named
  have hlocks := B.notSynchronized
  subst hsz
  have hD := hD0.self (sz := s.heap.size)
  generalize hAe : va_A [(o, .inr (3, [.ref q1, .ref q2, .ref q3, .ref q4])), (q4, .inr (2, [.ref q6, .int sc, .int sl, .int se])), (q6, .inl (cI, 7, .inl sr))] s.heap.size = A at hD hE ⊢
  have hA : ∀ q : Nat, s.heap.size ≤ q → A q := fun q h => by rw [← hAe]; exact Or.inr h
  have hS : va_S A s.heap s.heap [] := va_S.rf
  have hl := lv_entry ([.ref o, .int i0, .int i1]) (n := 3) (Nat.le_of_ble_eq_true rfl)
  rw [lg_entry_eq]
  generalize (lg_sl ([.ref o, .int i0, .int i1]) ++ List.replicate (3 - (lg_sl ([.ref o, .int i0, .int i1])).length) Slot.unset).toArray = ls at hl ⊢
  have hl : lv_has ls 3 [(0, .ref o), (1, .int i0), (2, .int i1)] := hl
  refine lv_aload_n hx hb dX1_measureOf_0 rfl (lv_at hl 0 rfl) ?_
  refine va_get (D := D) (ci := 3) (v := .ref q4) (C := RX1) (T := TX1) (N := 4) hx hb hts in_X1_measureOf_X1 hown hK hP 0 rfl rfl 3 (by decide) (hts (.fieldLink RX1 24 "Nearestclock" "spare" "LNearestclock$Euclid;") (List.mem_of_getElem? (i := 1) rfl)) (fun _ h9 => h9) rfl dX1_measureOf_1 ?_
  refine lv_iload_n hx hb dX1_measureOf_4 rfl (lv_at hl 1 rfl) ?_
  refine lv_iload_n hx hb dX1_measureOf_5 rfl (lv_at hl 2 rfl) ?_
  refine ny_v (wc := [(q4, .inr (2, [.ref q6, .int sc, .int sl, .int se])), (q6, .inl (cI, 7, .inl sr))]) (wr := [(o, .inr (3, [.ref q1, .ref q2, .ref q3, .ref q4]))]) hP hD hS hA [1, 2] [0] rfl rfl (by decide) (by decide) (va_runVN (As := [.int i0, .int i1]) (rest := []) ⟨hx, hb, hml, hown, hts⟩ (c_X0_takeRests l D cI q4 q6 s.heap.size sr sc sl se i0 i1 (by assumption) (by assumption)) ⟨va_cnB 2 hts gX1_measureOf_X0_takeRests_n106 rfl rfl rfl (hE.2.2.2.1 (RX1, 106, yX0_takeRests) (List.mem_of_getElem? (i := 0) rfl)) (hts (.initialized RX0) (List.mem_of_getElem? (i := 7) rfl)) (by decide +kernel) ⟨Nat.le_of_ble_eq_true rfl, Nat.le_of_ble_eq_true rfl⟩, (hts (.instanceMethod yX0_takeRests) (List.mem_of_getElem? (i := 6) rfl)), (hts (.selects RX0 yX0_takeRests yX0_takeRests) (List.mem_of_getElem? (i := 8) rfl))⟩ ⟨ny_blind, va_recv hK hP (ci := 2) (q0 := 1) rfl rfl, fun U hU hW => ⟨rfl, ny_preU hE hP hK hD hS hA [1, 2] rfl (by decide) rfl [0] rfl U hU hW⟩⟩ rfl rfl hl.1 rfl (lv_room (Nat.le_of_ble_eq_true rfl)) dX1_measureOf_6 ⟨Nat.le_of_ble_eq_true rfl, Nat.le_of_ble_eq_true rfl⟩) (fun u H locs hw_6 hP hD hS => ?_)
  have hP : va_P D vwCl [(o, .inr (3, [.ref q1, .ref q2, .ref q3, .ref q4])), (q4, .inr (2, [.ref q6, .int (nI (f_ln i0 i1)), .int (f_la i0 i1), .int 1])), (q6, .inl (cI, 7, .inl (f_row sr i0 i1 (f_ln i0 i1))))] H := hP
  have hD : va_D A [(o, .inr (3, [.ref q1, .ref q2, .ref q3, .ref q4])), (q4, .inr (2, [.ref q6, .int (nI (f_ln i0 i1)), .int (f_la i0 i1), .int 1])), (q6, .inl (cI, 7, .inl (f_row sr i0 i1 (f_ln i0 i1))))] := hD
  refine lv_aload_n hx hb dX1_measureOf_9 rfl (lv_at hl 0 rfl) ?_
  refine va_get (D := D) (ci := 3) (v := .ref q4) (C := RX1) (T := TX1) (N := 4) hx hb hts in_X1_measureOf_X1 hown hK hP 0 rfl rfl 3 (by decide) (hts (.fieldLink RX1 24 "Nearestclock" "spare" "LNearestclock$Euclid;") (List.mem_of_getElem? (i := 1) rfl)) (fun _ h9 => h9) rfl dX1_measureOf_10 ?_
  refine va_getN (D := D) (ci := 2) (v := .int (f_la i0 i1)) (C := RX0) (T := TX0) (N := 4) hx hb hts in_X1_measureOf_X0 hown hK hP 1 rfl rfl 2 (by decide) (va_Nw.use rfl (hE.2.2.1 (162, "last", "I") (List.mem_of_getElem? (i := 2) rfl))) (fun _ h9 => h9) rfl dX1_measureOf_13 ?_
  refine va_mabs hx hb (hml.trans hl.1.symm) hown (hts (.methodLink RX1 65 Lib.Math.abs.name) (List.mem_of_getElem? (i := 2) rfl)) (hts (.static Lib.Math.abs.name) (List.mem_of_getElem? (i := 3) rfl)) (hts (.initialized "java/lang/Math") (List.mem_of_getElem? (i := 4) rfl)) (hts (.code Lib.Math.abs.name Lib.Math.abs.code 1 (some .int)) (List.mem_of_getElem? (i := 5) rfl)) (Nat.le_of_ble_eq_true rfl) (Nat.le_of_ble_eq_true rfl) (Nat.le_of_ble_eq_true rfl) (Nat.le_of_ble_eq_true rfl) dX1_measureOf_16 ?_
  refine W.eq (g2 := F0 m 19 ls [.int (ny_ab (f_la i0 i1))]) rfl ?_
  have hP9 := hP.sub (ws' := [(o, .inr (3, [.ref q1, .ref q2, .ref q3, .ref q4])), (q4, .inr (2, [.ref q6, .int (nI (f_ln i0 i1)), .int (f_la i0 i1), .int 1])), (q6, .inl (cI, 7, .inl (f_row sr i0 i1 (f_ln i0 i1))))]) [0, 1, 2] rfl
  have hD9 := hD.sub (ws' := [(o, .inr (3, [.ref q1, .ref q2, .ref q3, .ref q4])), (q4, .inr (2, [.ref q6, .int (nI (f_ln i0 i1)), .int (f_la i0 i1), .int 1])), (q6, .inl (cI, 7, .inl (f_row sr i0 i1 (f_ln i0 i1))))]) [0, 1, 2] (by decide) rfl
  exact W.iret (v := ny_ab (f_la i0 i1)) hx hb hr (fun t ht hW => ⟨⟨ny_ab (f_la i0 i1), (), rfl, (n_gdA gy gx), by rw [ht]; exact hP9, va_K.moved hW.alike hK, hD9⟩, hS.F ht⟩) hS.2.2 dX1_measureOf_19
theorem in_X1_inverseOf_X0 : ∀ w ∈ wsX00, w ∈ wsX1_inverseOf := (fun _ h => List.mem_cons_of_mem _ (List.mem_append_left _ (List.mem_append_left _ (List.mem_append_right _ h))))
theorem in_X1_inverseOf_X1 : ∀ w ∈ wsX10, w ∈ wsX1_inverseOf := (fun _ h => List.mem_cons_of_mem _ (List.mem_append_left _ (List.mem_append_left _ (List.mem_append_left _ (List.mem_append_right _ h)))))
set_option maxHeartbeats 4000000 in
set_option maxRecDepth 100000 in
theorem c_X1_inverseOf (l : Launch) (D : va_G) (cI : ClassId) (o : Nat) (q1 : Nat) (q2 : Nat) (q3 : Nat) (q4 : Nat) (q6 : Nat) (sz : Nat) (sr : Nat → Int32) (sc : Int32) (sl : Int32) (se : Int32) (i0 : Int32) (i1 : Int32) (gx : ny_R i0) (gy : ny_R i1) (g0 : ¬ i1 = 0) : Met l yX1_inverseOf wsX1_inverseOf ({ frames := 3, cells := 0, slots := 0, locals := 73 }) (va_Pc [.ref o, .int i0, .int i1] (ny_pre D [(cI, .int)] [(o, .inr (3, [.ref q1, .ref q2, .ref q3, .ref q4])), (q4, .inr (2, [.ref q6, .int sc, .int sl, .int se])), (q6, .inl (cI, 7, .inl sr))] sz)) (va_Qi (fun (r : Int32) (u : Unit) => r = f_iv i0 i1) (fun (u : Unit) t => ny_at D [(cI, .int)] (va_A [(o, .inr (3, [.ref q1, .ref q2, .ref q3, .ref q4])), (q4, .inr (2, [.ref q6, .int sc, .int sl, .int se])), (q6, .inl (cI, 7, .inl sr))] sz) [(o, .inr (3, [.ref q1, .ref q2, .ref q3, .ref q4])), (q4, .inr (2, [.ref q6, .int (nI (f_ln i0 i1)), .int (f_la i0 i1), .int 1])), (q6, .inl (cI, 7, .inl (f_row sr i0 i1 (f_ln i0 i1))))] t) (va_A [(o, .inr (3, [.ref q1, .ref q2, .ref q3, .ref q4])), (q4, .inr (2, [.ref q6, .int sc, .int sl, .int se])), (q6, .inl (cI, 7, .inl sr))] sz)) 0 0 (va_A [(o, .inr (3, [.ref q1, .ref q2, .ref q3, .ref q4])), (q4, .inr (2, [.ref q6, .int sc, .int sl, .int se])), (q6, .inl (cI, 7, .inl sr))] sz) := by
  refine Met.ofW (cc := cX1_inverseOf) (maxL := 5) (ret := (some .int)) (by decide) rfl ?_
  intro p e s m args below meth c s₁ B hml hv
  obtain ⟨rfl, hsz, hP, hK, hD0, hE⟩ := hv
  have hx := B.exec
  have hb := B.bytes
  have hr := B.returns
  have hts := atoms_spec (ws := wsX1_inverseOf) B.pre
  have hown : s.vm.findClass RX1 = some m.cls := findClass_of_methodNamed B.named
  have hlocks := B.notSynchronized
  subst hsz
  have hD := hD0.self (sz := s.heap.size)
  generalize hAe : va_A [(o, .inr (3, [.ref q1, .ref q2, .ref q3, .ref q4])), (q4, .inr (2, [.ref q6, .int sc, .int sl, .int se])), (q6, .inl (cI, 7, .inl sr))] s.heap.size = A at hD hE ⊢
  have hA : ∀ q : Nat, s.heap.size ≤ q → A q := fun q h => by rw [← hAe]; exact Or.inr h
  have hS : va_S A s.heap s.heap [] := va_S.rf
  have hl := lv_entry ([.ref o, .int i0, .int i1]) (n := 5) (Nat.le_of_ble_eq_true rfl)
  rw [lg_entry_eq]
  generalize (lg_sl ([.ref o, .int i0, .int i1]) ++ List.replicate (5 - (lg_sl ([.ref o, .int i0, .int i1])).length) Slot.unset).toArray = ls at hl ⊢
  have hl : lv_has ls 5 [(0, .ref o), (1, .int i0), (2, .int i1)] := hl
  refine lv_aload_n hx hb dX1_inverseOf_0 rfl (lv_at hl 0 rfl) ?_
  refine va_get (D := D) (ci := 3) (v := .ref q4) (C := RX1) (T := TX1) (N := 4) hx hb hts in_X1_inverseOf_X1 hown hK hP 0 rfl rfl 3 (by decide) (hts (.fieldLink RX1 24 "Nearestclock" "spare" "LNearestclock$Euclid;") (List.mem_of_getElem? (i := 1) rfl)) (fun _ h9 => h9) rfl dX1_inverseOf_1 ?_
  refine lv_iload_n hx hb dX1_inverseOf_4 rfl (lv_at hl 1 rfl) ?_
  refine lv_iload_n hx hb dX1_inverseOf_5 rfl (lv_at hl 2 rfl) ?_
  refine ny_v (wc := [(q4, .inr (2, [.ref q6, .int sc, .int sl, .int se])), (q6, .inl (cI, 7, .inl sr))]) (wr := [(o, .inr (3, [.ref q1, .ref q2, .ref q3, .ref q4]))]) hP hD hS hA [1, 2] [0] rfl rfl (by decide) (by decide) (va_runVN (As := [.int i0, .int i1]) (rest := []) ⟨hx, hb, hml, hown, hts⟩ (c_X0_takeRests l D cI q4 q6 s.heap.size sr sc sl se i0 i1 (by assumption) (by assumption)) ⟨va_cnB 2 hts gX1_inverseOf_X0_takeRests_n106 rfl rfl rfl (hE.2.2.2.1 (RX1, 106, yX0_takeRests) (List.mem_of_getElem? (i := 0) rfl)) (hts (.initialized RX0) (List.mem_of_getElem? (i := 3) rfl)) (by decide +kernel) ⟨Nat.le_of_ble_eq_true rfl, Nat.le_of_ble_eq_true rfl⟩, (hts (.instanceMethod yX0_takeRests) (List.mem_of_getElem? (i := 2) rfl)), (hts (.selects RX0 yX0_takeRests yX0_takeRests) (List.mem_of_getElem? (i := 4) rfl))⟩ ⟨ny_blind, va_recv hK hP (ci := 2) (q0 := 1) rfl rfl, fun U hU hW => ⟨rfl, ny_preU hE hP hK hD hS hA [1, 2] rfl (by decide) rfl [0] rfl U hU hW⟩⟩ rfl rfl hl.1 rfl (lv_room (Nat.le_of_ble_eq_true rfl)) dX1_inverseOf_6 ⟨Nat.le_of_ble_eq_true rfl, Nat.le_of_ble_eq_true rfl⟩) (fun u H locs hw_6 hP hD hS => ?_)
  have hP : va_P D vwCl [(o, .inr (3, [.ref q1, .ref q2, .ref q3, .ref q4])), (q4, .inr (2, [.ref q6, .int (nI (f_ln i0 i1)), .int (f_la i0 i1), .int 1])), (q6, .inl (cI, 7, .inl (f_row sr i0 i1 (f_ln i0 i1))))] H := hP
  have hD : va_D A [(o, .inr (3, [.ref q1, .ref q2, .ref q3, .ref q4])), (q4, .inr (2, [.ref q6, .int (nI (f_ln i0 i1)), .int (f_la i0 i1), .int 1])), (q6, .inl (cI, 7, .inl (f_row sr i0 i1 (f_ln i0 i1))))] := hD
  refine lv_aload_n hx hb dX1_inverseOf_9 rfl (lv_at hl 0 rfl) ?_
  refine va_get (D := D) (ci := 3) (v := .ref q4) (C := RX1) (T := TX1) (N := 4) hx hb hts in_X1_inverseOf_X1 hown hK hP 0 rfl rfl 3 (by decide) (hts (.fieldLink RX1 24 "Nearestclock" "spare" "LNearestclock$Euclid;") (List.mem_of_getElem? (i := 1) rfl)) (fun _ h9 => h9) rfl dX1_inverseOf_10 ?_
  refine lv_aload_n hx hb dX1_inverseOf_13 rfl (lv_at hl 0 rfl) ?_
  refine va_get (D := D) (ci := 3) (v := .ref q4) (C := RX1) (T := TX1) (N := 4) hx hb hts in_X1_inverseOf_X1 hown hK hP 0 rfl rfl 3 (by decide) (hts (.fieldLink RX1 24 "Nearestclock" "spare" "LNearestclock$Euclid;") (List.mem_of_getElem? (i := 1) rfl)) (fun _ h9 => h9) rfl dX1_inverseOf_14 ?_
  refine va_getN (D := D) (ci := 2) (v := .int (nI (f_ln i0 i1))) (C := RX0) (T := TX0) (N := 4) hx hb hts in_X1_inverseOf_X0 hown hK hP 1 rfl rfl 1 (by decide) (va_Nw.use rfl (hE.2.2.1 (109, "count", "I") (List.mem_of_getElem? (i := 0) rfl))) (fun _ h9 => h9) rfl dX1_inverseOf_17 ?_
  refine lv_iconst (v := 1) hx hb dX1_inverseOf_20 (by decide) ?_
  refine lv_isub hx hb dX1_inverseOf_21 ?_
  refine ny_ti (x2 := nI (f_ln i0 i1 - 1)) (pk_sub (b := 1) (n_lnP gy g0)) ?_
  refine vp_callSi (va_Run.run (va_runVN (As := [.int (nI (f_ln i0 i1 - 1))]) (rest := []) ⟨hx, hb, hml, hown, hts⟩ (c_X0_belowLine l D cI q4 q6 H.size (f_row sr i0 i1 (f_ln i0 i1)) (nI (f_ln i0 i1)) (f_la i0 i1) 1 (nI (f_ln i0 i1 - 1)) (by rw [nI_toInt (by have := n_lnI (x := i0) gy; omega)]; omega) (by rw [fa_le, nI_toInt (by have := n_lnI (x := i0) gy; omega), n_lnT gy]; omega) (by rw [n_lnT gy]; have := n_lnI (x := i0) gy; omega)) ⟨va_cnB 1 hts gX1_inverseOf_X0_belowLine_n127 rfl rfl rfl (hE.2.2.2.1 (RX1, 127, yX0_belowLine) (List.mem_of_getElem? (i := 2) rfl)) (hts (.initialized RX0) (List.mem_of_getElem? (i := 3) rfl)) (by decide +kernel) ⟨Nat.le_of_ble_eq_true rfl, Nat.le_of_ble_eq_true rfl⟩, (hts (.instanceMethod yX0_belowLine) (List.mem_of_getElem? (i := 23) rfl)), (hts (.selects RX0 yX0_belowLine yX0_belowLine) (List.mem_of_getElem? (i := 24) rfl))⟩ ⟨ny_blind, va_recv hK hP (ci := 2) (q0 := 1) rfl rfl, fun U hU hW => ⟨rfl, ny_preU hE hP hK hD hS hA [1, 2] rfl (by decide) rfl [0] rfl U hU hW⟩⟩ rfl rfl hl.1 rfl (lv_room (Nat.le_of_ble_eq_true rfl)) dX1_inverseOf_22 ⟨Nat.le_of_ble_eq_true rfl, Nat.le_of_ble_eq_true rfl⟩)) (fun r_22 hw_22 => ?_)
  have hw_22 : r_22 = (f_sh (f_row sr i0 i1 (f_ln i0 i1)) 1 0 (nI (f_ln i0 i1 - 1)).toNatClampNeg).2 := hw_22
  subst hw_22
  refine lv_topi (fun v1 e_v1 => ?_)
  have hv1 := e_v1 ▸ n_v1 (x := i0) (sr := sr) gy g0
  refine lv_i2l hx hb dX1_inverseOf_25 rfl ?_
  refine lv_iload_n hx hb dX1_inverseOf_26 rfl (lv_at hl 2 rfl) ?_
  refine vp_callSi (va_Run.run (va_runS (As := [.long v1.toInt64, .int i1]) (rest := []) ⟨hx, hb, hml, hown, hts⟩ (c_X1_residueOf l v1.toInt64 i1 (by assumption) (by assumption) (n_lo _)) (va_cwS 2 hts gX1_inverseOf_X1_residueOf rfl rfl rfl (by decide +kernel) ⟨Nat.le_of_ble_eq_true rfl, Nat.le_of_ble_eq_true rfl⟩) ⟨ny_blindT, fun U hU hW => ⟨rfl, trivial⟩⟩ rfl rfl hl.1 rfl (lv_room (Nat.le_of_ble_eq_true rfl)) dX1_inverseOf_27 ⟨Nat.le_of_ble_eq_true rfl, Nat.le_of_ble_eq_true rfl⟩)) (fun r_27 hw_27 => ?_)
  have hw_27 : r_27 = f_rs v1.toInt64 i1 := hw_27
  subst hw_27
  refine lv_istore_n (lv' := [(3, .int (f_rs v1.toInt64 i1)), (0, .ref o), (1, .int i0), (2, .int i1)]) hx hb dX1_inverseOf_30 rfl hl (by decide) rfl (fun ls hl => ?_)
  refine lv_iload_n hx hb dX1_inverseOf_31 rfl (lv_at hl 0 rfl) ?_
  refine lv_iload_n hx hb dX1_inverseOf_32 rfl (lv_at hl 2 rfl) ?_
  refine lv_iload_n hx hb dX1_inverseOf_33 rfl (lv_at hl 3 rfl) ?_
  refine vp_callSi (va_Run.run (va_runS (As := [.int (f_rs v1.toInt64 i1), .int i0, .int i1]) (rest := []) ⟨hx, hb, hml, hown, hts⟩ (c_X1_isInverse l (f_rs v1.toInt64 i1) i0 i1 (by assumption) (by assumption)) (va_cwS 3 hts gX1_inverseOf_X1_isInverse rfl rfl rfl (by decide +kernel) ⟨Nat.le_of_ble_eq_true rfl, Nat.le_of_ble_eq_true rfl⟩) ⟨ny_blindT, fun U hU hW => ⟨rfl, trivial⟩⟩ rfl rfl hl.1 rfl (lv_room (Nat.le_of_ble_eq_true rfl)) dX1_inverseOf_34 ⟨Nat.le_of_ble_eq_true rfl, Nat.le_of_ble_eq_true rfl⟩)) (fun r_34 hw_34 => ?_)
  have hw_34 : r_34 = if f_rs ((f_rs v1.toInt64 i1) * i0).toInt64 i1 = f_rs 1 i1 then 1 else 0 := hw_34
  subst hw_34
  refine lv_if_eq (tgt := 42) hx hb dX1_inverseOf_37 (by decide) (fun c_37 => ?_) (fun c_37 => ?_)
  · refine lv_iload_n hx hb dX1_inverseOf_42 rfl (lv_at hl 0 rfl) ?_
    refine lv_ineg hx hb dX1_inverseOf_43 ?_
    refine lv_i2l hx hb dX1_inverseOf_44 rfl ?_
    refine lv_iload_n hx hb dX1_inverseOf_45 rfl (lv_at hl 3 rfl) ?_
    refine vp_callSi (va_Run.run (va_runS (As := [.long ((-(f_rs v1.toInt64 i1)).toInt64), .int i1]) (rest := []) ⟨hx, hb, hml, hown, hts⟩ (c_X1_residueOf l ((-(f_rs v1.toInt64 i1)).toInt64) i1 (by assumption) (by assumption) (n_lo _)) (va_cwS 2 hts gX1_inverseOf_X1_residueOf rfl rfl rfl (by decide +kernel) ⟨Nat.le_of_ble_eq_true rfl, Nat.le_of_ble_eq_true rfl⟩) ⟨ny_blindT, fun U hU hW => ⟨rfl, trivial⟩⟩ rfl rfl hl.1 rfl (lv_room (Nat.le_of_ble_eq_true rfl)) dX1_inverseOf_46 ⟨Nat.le_of_ble_eq_true rfl, Nat.le_of_ble_eq_true rfl⟩)) (fun r_46 hw_46 => ?_)
    have hw_46 : r_46 = f_rs ((-(f_rs v1.toInt64 i1)).toInt64) i1 := hw_46
    subst hw_46
    refine lv_istore (lv' := [(4, .int (f_rs ((-(f_rs v1.toInt64 i1)).toInt64) i1)), (3, .int (f_rs v1.toInt64 i1)), (0, .ref o), (1, .int i0), (2, .int i1)]) hx hb dX1_inverseOf_49 hl (by decide) rfl (fun ls hl => ?_)
    refine lv_iload hx hb dX1_inverseOf_51 (lv_at hl 0 rfl) ?_
    refine lv_iload_n hx hb dX1_inverseOf_53 rfl (lv_at hl 3 rfl) ?_
    refine lv_iload_n hx hb dX1_inverseOf_54 rfl (lv_at hl 4 rfl) ?_
    refine vp_callSi (va_Run.run (va_runS (As := [.int (f_rs ((-(f_rs v1.toInt64 i1)).toInt64) i1), .int i0, .int i1]) (rest := []) ⟨hx, hb, hml, hown, hts⟩ (c_X1_isInverse l (f_rs ((-(f_rs v1.toInt64 i1)).toInt64) i1) i0 i1 (by assumption) (by assumption)) (va_cwS 3 hts gX1_inverseOf_X1_isInverse rfl rfl rfl (by decide +kernel) ⟨Nat.le_of_ble_eq_true rfl, Nat.le_of_ble_eq_true rfl⟩) ⟨ny_blindT, fun U hU hW => ⟨rfl, trivial⟩⟩ rfl rfl hl.1 rfl (lv_room (Nat.le_of_ble_eq_true rfl)) dX1_inverseOf_55 ⟨Nat.le_of_ble_eq_true rfl, Nat.le_of_ble_eq_true rfl⟩)) (fun r_55 hw_55 => ?_)
    have hw_55 : r_55 = if f_rs ((f_rs ((-(f_rs v1.toInt64 i1)).toInt64) i1) * i0).toInt64 i1 = f_rs 1 i1 then 1 else 0 := hw_55
    subst hw_55
    refine lv_if_eq (tgt := 66) hx hb dX1_inverseOf_58 (by decide) (fun c_58 => ?_) (fun c_58 => ?_)
    · refine lv_sipush (v := 128) hx hb dX1_inverseOf_66 (by decide) ?_
      have hP9 := hP.sub (ws' := [(o, .inr (3, [.ref q1, .ref q2, .ref q3, .ref q4])), (q4, .inr (2, [.ref q6, .int (nI (f_ln i0 i1)), .int (f_la i0 i1), .int 1])), (q6, .inl (cI, 7, .inl (f_row sr i0 i1 (f_ln i0 i1))))]) [0, 1, 2] rfl
      have hD9 := hD.sub (ws' := [(o, .inr (3, [.ref q1, .ref q2, .ref q3, .ref q4])), (q4, .inr (2, [.ref q6, .int (nI (f_ln i0 i1)), .int (f_la i0 i1), .int 1])), (q6, .inl (cI, 7, .inl (f_row sr i0 i1 (f_ln i0 i1))))]) [0, 1, 2] (by decide) rfl
      exact W.iret (v := 128) hx hb hr (fun t ht hW => ⟨⟨128, (), rfl, (n_ivN gx gy g0 hv1 c_37 c_58), by rw [ht]; exact hP9, va_K.moved hW.alike hK, hD9⟩, hS.F ht⟩) hS.2.2 dX1_inverseOf_69
    · refine lv_iload hx hb dX1_inverseOf_61 (lv_at hl 0 rfl) ?_
      refine lv_goto (tgt := 69) hx hb dX1_inverseOf_63 (by decide) ?_
      have hP9 := hP.sub (ws' := [(o, .inr (3, [.ref q1, .ref q2, .ref q3, .ref q4])), (q4, .inr (2, [.ref q6, .int (nI (f_ln i0 i1)), .int (f_la i0 i1), .int 1])), (q6, .inl (cI, 7, .inl (f_row sr i0 i1 (f_ln i0 i1))))]) [0, 1, 2] rfl
      have hD9 := hD.sub (ws' := [(o, .inr (3, [.ref q1, .ref q2, .ref q3, .ref q4])), (q4, .inr (2, [.ref q6, .int (nI (f_ln i0 i1)), .int (f_la i0 i1), .int 1])), (q6, .inl (cI, 7, .inl (f_row sr i0 i1 (f_ln i0 i1))))]) [0, 1, 2] (by decide) rfl
      exact W.iret (v := f_rs ((-(f_rs v1.toInt64 i1)).toInt64) i1) hx hb hr (fun t ht hW => ⟨⟨f_rs ((-(f_rs v1.toInt64 i1)).toInt64) i1, (), rfl, (n_iv1 gx gy g0 c_58), by rw [ht]; exact hP9, va_K.moved hW.alike hK, hD9⟩, hS.F ht⟩) hS.2.2 dX1_inverseOf_69
  · refine lv_iload_n hx hb dX1_inverseOf_40 rfl (lv_at hl 0 rfl) ?_
    have hP9 := hP.sub (ws' := [(o, .inr (3, [.ref q1, .ref q2, .ref q3, .ref q4])), (q4, .inr (2, [.ref q6, .int (nI (f_ln i0 i1)), .int (f_la i0 i1), .int 1])), (q6, .inl (cI, 7, .inl (f_row sr i0 i1 (f_ln i0 i1))))]) [0, 1, 2] rfl
    have hD9 := hD.sub (ws' := [(o, .inr (3, [.ref q1, .ref q2, .ref q3, .ref q4])), (q4, .inr (2, [.ref q6, .int (nI (f_ln i0 i1)), .int (f_la i0 i1), .int 1])), (q6, .inl (cI, 7, .inl (f_row sr i0 i1 (f_ln i0 i1))))]) [0, 1, 2] (by decide) rfl
    exact W.iret (v := f_rs v1.toInt64 i1) hx hb hr (fun t ht hW => ⟨⟨f_rs v1.toInt64 i1, (), rfl, (n_iv1 gx gy g0 c_37), by rw [ht]; exact hP9, va_K.moved hW.alike hK, hD9⟩, hS.F ht⟩) hS.2.2 dX1_inverseOf_41

/-! THE REFERENCE: the plain facts that its walks want. -/
theorem n_1m {b : Int32} (gb : ny_B b) (c : ¬ b = 0) : (0 : Int32) = 1 - b := by
  rcases gb with rfl | rfl
  · exact absurd rfl c
  · decide
theorem n_1m0 {b : Int32} (c : b = 0) : (1 : Int32) = 1 - b := by rw [c]; decide
theorem n_lz1 {b : Int32} (gb : ny_B b) (c : ¬ b = 0) : (1 : Int32) = b := by
  rcases gb with rfl | rfl
  · exact absurd rfl c
  · rfl
theorem n_wadd {a b : Int32} (ga : ny_R a) (gb : ny_R b) : a.toInt64 + b.toInt64 = (a + b).toInt64 := by
  unfold ny_R at ga gb
  refine Int64.toInt_inj.mp ?_
  rw [fb_addL (by rw [Int32.toInt_toInt64, Int32.toInt_toInt64]; omega) (by rw [Int32.toInt_toInt64, Int32.toInt_toInt64]; omega), Int32.toInt_toInt64, Int32.toInt_toInt64, Int32.toInt_toInt64, fb_addI (by omega) (by omega)]
theorem n_wsub {a b : Int32} (ga : ny_R a) (gb : ny_R b) : a.toInt64 - b.toInt64 = (a - b).toInt64 := by
  unfold ny_R at ga gb
  refine Int64.toInt_inj.mp ?_
  rw [fb_subL (by rw [Int32.toInt_toInt64, Int32.toInt_toInt64]; omega) (by rw [Int32.toInt_toInt64, Int32.toInt_toInt64]; omega), Int32.toInt_toInt64, Int32.toInt_toInt64, Int32.toInt_toInt64, fb_subI (by omega) (by omega)]
theorem n_wmul {a b : Int32} (ga : ny_R a) (gb : ny_R b) : a.toInt64 * b.toInt64 = (a * b).toInt64 := by
  have h := n_pr (n_R127 ga) (n_R127 gb)
  refine Int64.toInt_inj.mp ?_
  rw [fb_mulL (by rw [Int32.toInt_toInt64, Int32.toInt_toInt64]; omega) (by rw [Int32.toInt_toInt64, Int32.toInt_toInt64]; omega), Int32.toInt_toInt64, Int32.toInt_toInt64, Int32.toInt_toInt64, fb_mulI (by omega) (by omega)]
theorem n_lb (x : Int32) : -1099511627776 ≤ x.toInt64.toInt ∧ x.toInt64.toInt ≤ 1099511627776 := by
  have := fb_rng x
  rw [Int32.toInt_toInt64]
  omega
theorem n_ap1 {d : Int32} (c : ¬ 0 ≤ d) : (-1 : Int32) = if d < 0 then -1 else if d = 0 then 0 else 1 := by
  rw [if_pos (n_nge c)]
theorem n_ap2 {d : Int32} (c : 0 ≤ d) (c2 : ¬ d ≤ 0) : (1 : Int32) = if d < 0 then -1 else if d = 0 then 0 else 1 := by
  rw [if_neg (n_ge c), if_neg (fun e => c2 (by rw [e]; exact Int32.le_refl _))]
theorem n_ap3 {d : Int32} (c : 0 ≤ d) (c2 : d ≤ 0) : (0 : Int32) = if d < 0 then -1 else if d = 0 then 0 else 1 := by
  rw [if_neg (n_ge c), if_pos (by rw [fa_le, ny_z0] at c c2; exact ny_eqI (by rw [ny_z0]; omega))]
/-- taking |y| away from |x| -/
theorem n_cuE {x y : Int32} {r : Nat} (gx : ny_R x) (gy : ny_R y) (hr : r % y.toInt.natAbs = x.toInt.natAbs % y.toInt.natAbs) (c : r < y.toInt.natAbs) : (x < 0 → -nI r = f_cu x y) ∧ (¬ x < 0 → nI r = f_cu x y) := by
  rw [Nat.mod_eq_of_lt c] at hr
  have h1 := f_cu_i (y := y) (ny_R_lo gx)
  have h2 := ny_tmod_sg x.toInt y.toInt
  have h3 : (x.toInt.tmod y.toInt).natAbs = x.toInt.natAbs % y.toInt.natAbs := Int.natAbs_tmod _ _
  have gy1 := n_R127 gy
  have h4 : (nI r).toInt = r := nI_toInt (by omega)
  refine ⟨fun h => ?_, fun h => ?_⟩
  · rw [fa_lt, ny_z0] at h
    refine ny_eqI ?_
    rw [fb_negI (by omega), h4, h1]
    omega
  · rw [fa_lt, ny_z0] at h
    refine ny_eqI ?_
    rw [h4, h1]
    omega
theorem n_nIab {y : Int32} {r : Nat} (gy : ny_R y) (hr : r ≤ 127) : nI r < ny_ab y ↔ r < y.toInt.natAbs := by
  have gy1 := n_R127 gy
  rw [n_abN gy, nI_ltI (by omega) (by omega)]
theorem n_modS {r y : Nat} (h : y ≤ r) : (r - y) % y = r % y := (Nat.mod_eq_sub_mod h).symm
/-- the reference's power -/
theorem n_pwL {t : Int} (ht : t.natAbs ≤ 127) : (Int64.ofInt t).toInt = t := Int64.toInt_ofInt_of_le (by omega) (by omega)
theorem n_pw0 {y : Int32} (gy : ny_R y) (g0 : ¬ y = 0) : (f_rs 1 y).toInt64 = Int64.ofInt (ma_rs 1 y.toInt) ∧ (ma_rs 1 y.toInt).natAbs ≤ 127 := by
  have h1 := f_rs_i (v := 1) gy g0
  have h2 : (1 : Int64).toInt = 1 := rfl
  rw [h2] at h1
  have h3 := ma_rs_size (v := 1) (ny_nz0 g0)
  have gy1 := n_R127 gy
  refine ⟨Int64.toInt_inj.mp ?_, by omega⟩
  rw [Int32.toInt_toInt64, h1, n_pwL (by omega)]
theorem n_pwT {x y : Int32} {t : Int} (gx : ny_R x) (ht : t.natAbs ≤ 127) : (Int64.ofInt t * x.toInt64) - (Int64.ofInt t * x.toInt64) / y.toInt64 * y.toInt64 = Int64.ofInt ((t * x.toInt).tmod y.toInt) := by
  have h1 := n_pwL ht
  have h2 := n_pr ht (n_R127 gx)
  have h3 : (Int64.ofInt t * x.toInt64).toInt = t * x.toInt := by
    rw [fb_mulL (by rw [h1, Int32.toInt_toInt64]; omega) (by rw [h1, Int32.toInt_toInt64]; omega), h1, Int32.toInt_toInt64]
  have h4 := ny_tmod_sg (t * x.toInt) y.toInt
  have h5 : (Int64.ofInt ((t * x.toInt).tmod y.toInt)).toInt = (t * x.toInt).tmod y.toInt := Int64.toInt_ofInt_of_le (by omega) (by omega)
  refine Int64.toInt_inj.mp ?_
  rw [h5, ny_remL (by omega), h3, Int32.toInt_toInt64]
theorem n_pwI2 {x y t : Int} {k : Nat} (h0 : y ≠ 0) (hy : y.natAbs ≤ 127) (h : y ∣ t - x ^ k) : ((t * x).tmod y).natAbs ≤ 127 ∧ y ∣ (t * x).tmod y - x ^ (k + 1) := by
  have h1 : ((t * x).tmod y).natAbs = (t * x).natAbs % y.natAbs := Int.natAbs_tmod _ _
  have h2 : (t * x).natAbs % y.natAbs < y.natAbs := Nat.mod_lt _ (by omega)
  refine ⟨by omega, ?_⟩
  have h3 : y ∣ (t * x).tmod y - t * x := Int.dvd_tmod_sub_self
  have h4 : y ∣ (t - x ^ k) * x := Int.dvd_mul_of_dvd_left h
  rw [Int.sub_mul, ← Int.pow_succ] at h4
  have h5 := Int.dvd_add h3 h4
  have e : (t * x).tmod y - t * x + (t * x - x ^ (k + 1)) = (t * x).tmod y - x ^ (k + 1) := by omega
  rw [e] at h5
  exact h5
theorem n_pwF {x n y : Int32} {t : Int} {k : Nat} (g0 : ¬ y = 0) (ht : t.natAbs ≤ 127) (h : y.toInt ∣ t - x.toInt ^ k) (hk : k = n.toInt.toNat) : f_rs (Int64.ofInt t) y = f_pw x n y := by
  unfold f_rs f_pw
  rw [n_pwL ht, ← hk]
  exact congrArg Int32.ofInt (ma_rs_congr (ny_nz0 g0) h)
theorem n_pwE2 {n : Int32} {k : Nat} (hk : k ≤ n.toInt.toNat) (gn : 0 ≤ n.toInt ∧ n.toInt ≤ 1000) (c : n ≤ nI k) : k = n.toInt.toNat := by
  rw [fa_le, nI_toInt (by omega)] at c
  omega
theorem n_Lb {t : Int} (ht : t.natAbs ≤ 127) : -1099511627776 ≤ (Int64.ofInt t).toInt ∧ (Int64.ofInt t).toInt ≤ 1099511627776 := by
  rw [n_pwL ht]
  omega
/-- the reference's inverse -/
theorem n_ivS {x y : Int32} {k : Nat} (gy : ny_R y) (g0 : ¬ y = 0) (gx : ny_R x) (hk : k < 255) : (f_rs (Int32.ofInt ((k : Int) - 127)).toInt64 y = Int32.ofInt ((k : Int) - 127) ↔ ma_rs ((k : Int) - 127) y.toInt = (k : Int) - 127) ∧ (f_rs (x.toInt64 * (Int32.ofInt ((k : Int) - 127)).toInt64) y = f_rs 1 y ↔ ma_rs (x.toInt * ((k : Int) - 127)) y.toInt = ma_rs 1 y.toInt) := by
  have h1 := n_oi (n := (k : Int) - 127) (by omega) (by omega)
  have h2 := n_pr (a := x.toInt) (b := (k : Int) - 127) (n_R127 gx) (B := 127) (by omega)
  have h3 : (x.toInt64 * (Int32.ofInt ((k : Int) - 127)).toInt64).toInt = x.toInt * ((k : Int) - 127) := by
    rw [fb_mulL (by rw [Int32.toInt_toInt64, Int32.toInt_toInt64, h1]; omega) (by rw [Int32.toInt_toInt64, Int32.toInt_toInt64, h1]; omega), Int32.toInt_toInt64, Int32.toInt_toInt64, h1]
  refine ⟨?_, ?_⟩
  · rw [fa_eq, f_rs_i gy g0, Int32.toInt_toInt64, h1]
  · rw [n_rsI gy g0, h3]
    exact Iff.rfl
theorem n_ivB {x : Int32} {k : Nat} (gx : ny_R x) (hk : k < 255) : -1099511627776 ≤ (x.toInt64 * (Int32.ofInt ((k : Int) - 127)).toInt64).toInt ∧ (x.toInt64 * (Int32.ofInt ((k : Int) - 127)).toInt64).toInt ≤ 1099511627776 := by
  have h1 := n_oi (n := (k : Int) - 127) (by omega) (by omega)
  have h2 := n_pr (a := x.toInt) (b := (k : Int) - 127) (n_R127 gx) (B := 127) (by omega)
  have h3 : (x.toInt64 * (Int32.ofInt ((k : Int) - 127)).toInt64).toInt = x.toInt * ((k : Int) - 127) := by
    rw [fb_mulL (by rw [Int32.toInt_toInt64, Int32.toInt_toInt64, h1]; omega) (by rw [Int32.toInt_toInt64, Int32.toInt_toInt64, h1]; omega), Int32.toInt_toInt64, Int32.toInt_toInt64, h1]
  rw [h3]
  omega
theorem n_ivU1 {x y : Int} {k : Nat} (h1 : ma_rs ((k : Int) - 127) y = (k : Int) - 127) (h2 : ma_rs (x * ((k : Int) - 127)) y = ma_rs 1 y) : Int32.ofInt ((k : Int) - 127) = Int32.ofInt (ma_ivF x y (k + 1)) := by
  unfold ma_ivF
  rw [if_pos ⟨h1, h2⟩]
theorem n_ivU2 {x y : Int} {k : Nat} (h : ¬ (ma_rs ((k : Int) - 127) y = (k : Int) - 127 ∧ ma_rs (x * ((k : Int) - 127)) y = ma_rs 1 y)) : Int32.ofInt (ma_ivF x y k) = Int32.ofInt (ma_ivF x y (k + 1)) := by
  have e : ma_ivF x y (k + 1) = ma_ivF x y k := by
    show (if _ then _ else _) = _
    rw [if_neg h]
  rw [e]
theorem n_iv127 {k : Nat} (hk : k ≤ 255) : ((127 : Int32) < Int32.ofInt ((k : Int) - 127)) ↔ k = 255 := by
  rw [fa_lt, n_oi (by omega) (by omega)]
  have z : (127 : Int32).toInt = 127 := rfl
  omega
theorem n_ivI (k : Nat) : Int32.ofInt ((k : Int) - 127) + Int32.ofInt 1 = Int32.ofInt (((k + 1 : Nat) : Int) - 127) := by
  rw [n_inc]
  congr 1
  omega
theorem n_ivLE (x y : Int32) : f_iv x y ≤ 127 ↔ ¬ f_iv x y = 128 := by
  have h1 := n_ivR (x := x.toInt) (y := y.toInt) 255 (Nat.le_refl _)
  have h2 := f_iv_i x y
  have z : (127 : Int32).toInt = 127 := rfl
  have z2 : (128 : Int32).toInt = 128 := rfl
  rw [fa_le, fa_eq, z, z2]
  omega
/-- the reference's order -/
def ma_od (x y : Int) : Nat := y.natAbs / Int.gcd x y
theorem n_od1 {x y : Int} (h0 : y ≠ 0) : y ∣ (ma_od x y : Int) * x := by
  have h1 : ((Int.gcd x y : Nat) : Int) ∣ x := Int.gcd_dvd_left ..
  obtain ⟨a, ha⟩ := h1
  have h2 : Int.gcd x y ∣ y.natAbs := Int.natAbs_natCast (Int.gcd x y) ▸ Int.natAbs_dvd_natAbs.mpr (Int.gcd_dvd_right ..)
  have h3 : ma_od x y * Int.gcd x y = y.natAbs := Nat.div_mul_cancel h2
  have h4 : (ma_od x y : Int) * x = (y.natAbs : Int) * a := by
    have h5 : (ma_od x y : Int) * x = (ma_od x y : Int) * (((Int.gcd x y : Nat) : Int) * a) := congrArg (fun z => (ma_od x y : Int) * z) ha
    rw [h5, ← Int.mul_assoc, ← Int.natCast_mul, h3]
  rw [h4]
  exact Int.dvd_mul_of_dvd_left (Int.dvd_natAbs.mpr (Int.dvd_refl y))
theorem n_od2 {x y : Int} (h0 : y ≠ 0) {k : Nat} (h : y ∣ (k : Int) * x) : ma_od x y ∣ k := by
  have hg := n_gpos (x := x) (z := y) (Or.inr h0)
  have h1 := Int.natAbs_dvd_natAbs.mpr h
  rw [Int.natAbs_mul, Int.natAbs_natCast] at h1
  have e1 : Int.gcd x y = Nat.gcd y.natAbs x.natAbs := by rw [Nat.gcd_comm]; rfl
  have hc : Nat.Coprime (y.natAbs / Nat.gcd y.natAbs x.natAbs) (x.natAbs / Nat.gcd y.natAbs x.natAbs) := Nat.coprime_div_gcd_div_gcd (by rw [← e1]; exact hg)
  unfold ma_od
  rw [e1] at hg ⊢
  have h2 : y.natAbs / Nat.gcd y.natAbs x.natAbs ∣ k * x.natAbs / Nat.gcd y.natAbs x.natAbs := Nat.div_dvd_div (Nat.gcd_dvd_left ..) h1
  rw [Nat.mul_div_assoc _ (Nat.gcd_dvd_right ..)] at h2
  exact hc.dvd_of_dvd_mul_right h2
theorem n_od3 {x y : Int32} (gx : ny_R x) (gy : ny_R y) (g0 : ¬ y = 0) : ny_ab (y / f_gd x y) = nI (ma_od x.toInt y.toInt) ∧ 1 ≤ ma_od x.toInt y.toInt ∧ ma_od x.toInt y.toInt ≤ 127 := by
  have h1 := n_gdI gy gx
  have h0 := ny_nz0 g0
  have hg := n_gpos (x := x.toInt) (z := y.toInt) (Or.inr h0)
  have gy1 := n_R127 gy
  have h2 : Int.gcd x.toInt y.toInt ∣ y.toInt.natAbs := Int.natAbs_natCast (Int.gcd x.toInt y.toInt) ▸ Int.natAbs_dvd_natAbs.mpr (Int.gcd_dvd_right ..)
  have h3 : ma_od x.toInt y.toInt * Int.gcd x.toInt y.toInt = y.toInt.natAbs := Nat.div_mul_cancel h2
  have h4 : ma_od x.toInt y.toInt ≤ y.toInt.natAbs := Nat.div_le_self _ _
  have h5 : 1 ≤ ma_od x.toInt y.toInt := by
    rcases Nat.eq_zero_or_pos (ma_od x.toInt y.toInt) with q | q
    · rw [q, Nat.zero_mul] at h3
      omega
    · exact q
  refine ⟨?_, h5, by omega⟩
  have h6 := ny_divI (y := f_gd x y) (ny_R_lo gy)
  have h7 : (y.toInt.tdiv (Int.gcd x.toInt y.toInt : Nat)).natAbs = ma_od x.toInt y.toInt := by
    rw [Int.natAbs_tdiv, Int.natAbs_natCast]
    rfl
  rw [h1.1] at h6
  refine ny_eqI ?_
  rw [ny_ab_i (by omega), h6, h7, nI_toInt (by omega)]
theorem n_odr {x y : Int32} {k : Nat} (gx : ny_R x) (hk : k ≤ 127) : lg_cmp ((nI k).toInt64 * x.toInt64 - (nI k).toInt64 * x.toInt64 / y.toInt64 * y.toInt64) 0 = 0 ↔ y.toInt ∣ (k : Int) * x.toInt := by
  have h1 : (nI k).toInt = k := nI_toInt (by omega)
  have h2 := n_pr (a := (k : Int)) (b := x.toInt) (A := 127) (by omega) (n_R127 gx)
  have h3 : ((nI k).toInt64 * x.toInt64).toInt = (k : Int) * x.toInt := by
    rw [fb_mulL (by rw [Int32.toInt_toInt64, Int32.toInt_toInt64, h1]; omega) (by rw [Int32.toInt_toInt64, Int32.toInt_toInt64, h1]; omega), Int32.toInt_toInt64, Int32.toInt_toInt64, h1]
  have z : (0 : Int64).toInt = 0 := rfl
  rw [n_lc, fa_eq64, ny_remL (by omega), h3, Int32.toInt_toInt64, z]
  exact ⟨Int.dvd_of_tmod_eq_zero, Int.tmod_eq_zero_of_dvd⟩
theorem n_odE {x y : Int} (h0 : y ≠ 0) {k : Nat} (hk : 1 ≤ k ∧ k ≤ ma_od x y) (h : y ∣ (k : Int) * x) : k = ma_od x y := by
  have := Nat.le_of_dvd (by omega) (n_od2 h0 h)
  omega
theorem n_tkL {x z : Int} {k : Nat} (hz : z.natAbs ≤ 127) (hj : ∀ j, j < k → (ma_eu x z j).2 ≠ 0) : k ≤ 7 := by
  obtain ⟨⟨h1, h2⟩, h3⟩ := ma_ln_ok (x := x) hz
  rcases Nat.lt_or_ge (ma_ln x z) k with q | q
  · exact absurd h2 (hj _ q)
  · omega
theorem f_rowAt (mt : Nat → Int32) (x z : Int32) {k n : Nat} (hk : k < n) (h : k < 2 ^ 31) : f_row mt x z n (nI k).toNatClampNeg = f_dg x z k := by
  rw [nI_clamp h]
  unfold f_row
  rw [if_pos hk]
theorem n_sh1 (mr : Nat → Int32) : f_sh mr 0 1 1 = (1, mr 0) := by
  show ((1 : Int32), mr 0 * 1 + 0) = (1, mr 0)
  rw [Int32.mul_one, Int32.add_zero]
theorem n_sh2 (mr : Nat → Int32) : f_sh mr 1 0 1 = (0, 1) := by
  show ((0 : Int32), mr 0 * 0 + 1) = (0, 1)
  rw [Int32.mul_zero, Int32.zero_add]
theorem in_X2_thrown_X2 : ∀ w ∈ wsX20, w ∈ wsX2_thrown := (fun _ h => List.mem_cons_of_mem _ (List.mem_append_right _ h))
set_option maxHeartbeats 4000000 in
set_option maxRecDepth 100000 in
theorem c_X2_thrown (l : Launch) (D : va_G) (mo : Nat) (m1 : Nat) (m2 : Nat) (m3 : Nat) (m4 : Nat) (sz : Nat) (th : Int32) (mn : Int32) : Met l yX2_thrown wsX2_thrown ({ frames := 0, cells := 0, slots := 0, locals := 0 }) (va_Pc [.ref mo] (ny_pre D [] [(mo, .inr (4, [.int th, .ref m1, .ref m2, .ref m3, .ref m4, .int mn]))] sz)) (vp_Si (fun r => r = th)) 0 0 (fun _ => False) := by
  refine Met.ofW (cc := cX2_thrown) (maxL := 1) (ret := (some .int)) (by decide) rfl ?_
  intro p e s m args below meth c s₁ B hml hv
  obtain ⟨rfl, hsz, hP, hK, hD0, hE⟩ := hv
  have hx := B.exec
  have hb := B.bytes
  have hr := B.returns
  have hts := atoms_spec (ws := wsX2_thrown) B.pre
  have hown : s.vm.findClass RX2 = some m.cls := findClass_of_methodNamed B.named
  have hlocks := B.notSynchronized
  subst hsz
  have hD := hD0.self (sz := s.heap.size)
  generalize hAe : va_A [(mo, .inr (4, [.int th, .ref m1, .ref m2, .ref m3, .ref m4, .int mn]))] s.heap.size = A at hD hE
  have hA : ∀ q : Nat, s.heap.size ≤ q → A q := fun q h => by rw [← hAe]; exact Or.inr h
  have hS : va_S A s.heap s.heap [] := va_S.rf
  have hl := lv_entry ([.ref mo]) (n := 1) (Nat.le_of_ble_eq_true rfl)
  rw [lg_entry_eq]
  generalize (lg_sl ([.ref mo]) ++ List.replicate (1 - (lg_sl ([.ref mo])).length) Slot.unset).toArray = ls at hl ⊢
  have hl : lv_has ls 1 [(0, .ref mo)] := hl
  refine lv_aload_n hx hb dX2_thrown_0 rfl (lv_at hl 0 rfl) ?_
  refine va_get (D := D) (ci := 4) (v := .int th) (C := RX2) (T := TX2) (N := 6) hx hb hts in_X2_thrown_X2 hown hK hP 0 rfl rfl 0 (by decide) (hts (.fieldLink RX2 23 "NearestclockModel" "thrown" "I") (List.mem_of_getElem? (i := 1) rfl)) (fun _ h9 => h9) rfl dX2_thrown_1 ?_
  exact W.iret (v := th) hx hb hr (fun t ht hW => ⟨th, rfl, (rfl), ht⟩) (fun q hq => absurd hq List.not_mem_nil) dX2_thrown_4
theorem in_X2_isThrown_X2 : ∀ w ∈ wsX20, w ∈ wsX2_isThrown := (fun _ h => List.mem_cons_of_mem _ (List.mem_append_right _ h))
set_option maxHeartbeats 4000000 in
set_option maxRecDepth 100000 in
theorem c_X2_isThrown_1 (l : Launch) (D : va_G) (mo : Nat) (m1 : Nat) (m2 : Nat) (m3 : Nat) (m4 : Nat) (sz : Nat) (th : Int32) (mn : Int32) (i1 : Int32) : Met l yX2_isThrown wsX2_isThrown ({ frames := 0, cells := 0, slots := 0, locals := 0 }) (va_Pc [.ref mo, .int 1, .int i1] (ny_pre D [] [(mo, .inr (4, [.int th, .ref m1, .ref m2, .ref m3, .ref m4, .int mn]))] sz)) (va_Qi (fun (r : Int32) (u : Unit) => r = 1) (fun (u : Unit) t => ny_at D [] (va_A [(mo, .inr (4, [.int th, .ref m1, .ref m2, .ref m3, .ref m4, .int mn]))] sz) [(mo, .inr (4, [.int i1, .ref m1, .ref m2, .ref m3, .ref m4, .int mn]))] t) (va_A [(mo, .inr (4, [.int th, .ref m1, .ref m2, .ref m3, .ref m4, .int mn]))] sz)) 0 0 (va_A [(mo, .inr (4, [.int th, .ref m1, .ref m2, .ref m3, .ref m4, .int mn]))] sz) := by
  refine Met.ofW (cc := cX2_isThrown) (maxL := 3) (ret := (some .boolean)) (by decide) rfl ?_
  intro p e s m args below meth c s₁ B hml hv
  obtain ⟨rfl, hsz, hP, hK, hD0, hE⟩ := hv
  have hx := B.exec
  have hb := B.bytes
  have hr := B.returns
  have hts := atoms_spec (ws := wsX2_isThrown) B.pre
  have hown : s.vm.findClass RX2 = some m.cls := findClass_of_methodNamed B.named
  have hlocks := B.notSynchronized
  subst hsz
  have hD := hD0.self (sz := s.heap.size)
  generalize hAe : va_A [(mo, .inr (4, [.int th, .ref m1, .ref m2, .ref m3, .ref m4, .int mn]))] s.heap.size = A at hD hE ⊢
  have hA : ∀ q : Nat, s.heap.size ≤ q → A q := fun q h => by rw [← hAe]; exact Or.inr h
  have hS : va_S A s.heap s.heap [] := va_S.rf
  have hl := lv_entry ([.ref mo, .int 1, .int i1]) (n := 3) (Nat.le_of_ble_eq_true rfl)
  rw [lg_entry_eq]
  generalize (lg_sl ([.ref mo, .int 1, .int i1]) ++ List.replicate (3 - (lg_sl ([.ref mo, .int 1, .int i1])).length) Slot.unset).toArray = ls at hl ⊢
  have hl : lv_has ls 3 [(0, .ref mo), (1, .int 1), (2, .int i1)] := hl
  refine lv_aload_n hx hb dX2_isThrown_0 rfl (lv_at hl 0 rfl) ?_
  refine lv_iload_n hx hb dX2_isThrown_1 rfl (lv_at hl 1 rfl) ?_
  refine lv_if_eq (tgt := 9) hx hb dX2_isThrown_2 (by decide) (fun c_2 => absurd c_2 (show ¬ ((1 : Int32) = 0) by  decide)) (fun c_2 => ?_)
  refine lv_iload_n hx hb dX2_isThrown_5 rfl (lv_at hl 2 rfl) ?_
  refine lv_goto (tgt := 10) hx hb dX2_isThrown_6 (by decide) ?_
  refine va_put (D := D) (ci := 4) (v := .int i1) (ty := .int) (C := RX2) (T := TX2) (N := 6) hx hb hts in_X2_isThrown_X2 tyX2 tyX2_ok nmX2 hown hK hP hD hS 0 rfl rfl 0 (by decide) (hts (.fieldLink RX2 23 "NearestclockModel" "thrown" "I") (List.mem_of_getElem? (i := 1) rfl)) (fun _ h9 => h9) rfl (by decide +kernel) rfl rfl (Nat.le_of_ble_eq_true rfl) dX2_isThrown_10 (fun H locs hP hD hS => ?_)
  have hP : va_P D vwCl [(mo, .inr (4, [.int i1, .ref m1, .ref m2, .ref m3, .ref m4, .int mn]))] H := hP
  have hD : va_D A [(mo, .inr (4, [.int i1, .ref m1, .ref m2, .ref m3, .ref m4, .int mn]))] := hD
  refine lv_iload_n hx hb dX2_isThrown_13 rfl (lv_at hl 1 rfl) ?_
  have hP9 := hP.sub (ws' := [(mo, .inr (4, [.int i1, .ref m1, .ref m2, .ref m3, .ref m4, .int mn]))]) [0] rfl
  have hD9 := hD.sub (ws' := [(mo, .inr (4, [.int i1, .ref m1, .ref m2, .ref m3, .ref m4, .int mn]))]) [0] (by decide) rfl
  exact W.zret (v := 1) hx hb hr (by decide) (fun t ht hW => ⟨⟨1, (), rfl, (rfl), by rw [ht]; exact hP9, va_K.moved hW.alike hK, hD9⟩, hS.F ht⟩) hS.2.2 dX2_isThrown_14
set_option maxHeartbeats 4000000 in
set_option maxRecDepth 100000 in
theorem c_X2_isThrown_0 (l : Launch) (D : va_G) (mo : Nat) (m1 : Nat) (m2 : Nat) (m3 : Nat) (m4 : Nat) (sz : Nat) (th : Int32) (mn : Int32) (i1 : Int32) : Met l yX2_isThrown wsX2_isThrown ({ frames := 0, cells := 0, slots := 0, locals := 0 }) (va_Pc [.ref mo, .int 0, .int i1] (ny_pre D [] [(mo, .inr (4, [.int th, .ref m1, .ref m2, .ref m3, .ref m4, .int mn]))] sz)) (va_Qi (fun (r : Int32) (u : Unit) => r = 0) (fun (u : Unit) t => ny_at D [] (va_A [(mo, .inr (4, [.int th, .ref m1, .ref m2, .ref m3, .ref m4, .int mn]))] sz) [(mo, .inr (4, [.int 0, .ref m1, .ref m2, .ref m3, .ref m4, .int mn]))] t) (va_A [(mo, .inr (4, [.int th, .ref m1, .ref m2, .ref m3, .ref m4, .int mn]))] sz)) 0 0 (va_A [(mo, .inr (4, [.int th, .ref m1, .ref m2, .ref m3, .ref m4, .int mn]))] sz) := by
  refine Met.ofW (cc := cX2_isThrown) (maxL := 3) (ret := (some .boolean)) (by decide) rfl ?_
  intro p e s m args below meth c s₁ B hml hv
  obtain ⟨rfl, hsz, hP, hK, hD0, hE⟩ := hv
  have hx := B.exec
  have hb := B.bytes
  have hr := B.returns
  have hts := atoms_spec (ws := wsX2_isThrown) B.pre
  have hown : s.vm.findClass RX2 = some m.cls := findClass_of_methodNamed B.named
  have hlocks := B.notSynchronized
  subst hsz
  have hD := hD0.self (sz := s.heap.size)
  generalize hAe : va_A [(mo, .inr (4, [.int th, .ref m1, .ref m2, .ref m3, .ref m4, .int mn]))] s.heap.size = A at hD hE ⊢
  have hA : ∀ q : Nat, s.heap.size ≤ q → A q := fun q h => by rw [← hAe]; exact Or.inr h
  have hS : va_S A s.heap s.heap [] := va_S.rf
  have hl := lv_entry ([.ref mo, .int 0, .int i1]) (n := 3) (Nat.le_of_ble_eq_true rfl)
  rw [lg_entry_eq]
  generalize (lg_sl ([.ref mo, .int 0, .int i1]) ++ List.replicate (3 - (lg_sl ([.ref mo, .int 0, .int i1])).length) Slot.unset).toArray = ls at hl ⊢
  have hl : lv_has ls 3 [(0, .ref mo), (1, .int 0), (2, .int i1)] := hl
  refine lv_aload_n hx hb dX2_isThrown_0 rfl (lv_at hl 0 rfl) ?_
  refine lv_iload_n hx hb dX2_isThrown_1 rfl (lv_at hl 1 rfl) ?_
  refine lv_if_eq (tgt := 9) hx hb dX2_isThrown_2 (by decide) (fun c_2 => ?_) (fun c_2 => absurd (show (0 : Int32) = 0 by  decide) c_2)
  refine lv_iconst (v := 0) hx hb dX2_isThrown_9 (by decide) ?_
  refine va_put (D := D) (ci := 4) (v := .int 0) (ty := .int) (C := RX2) (T := TX2) (N := 6) hx hb hts in_X2_isThrown_X2 tyX2 tyX2_ok nmX2 hown hK hP hD hS 0 rfl rfl 0 (by decide) (hts (.fieldLink RX2 23 "NearestclockModel" "thrown" "I") (List.mem_of_getElem? (i := 1) rfl)) (fun _ h9 => h9) rfl (by decide +kernel) rfl rfl (Nat.le_of_ble_eq_true rfl) dX2_isThrown_10 (fun H locs hP hD hS => ?_)
  have hP : va_P D vwCl [(mo, .inr (4, [.int 0, .ref m1, .ref m2, .ref m3, .ref m4, .int mn]))] H := hP
  have hD : va_D A [(mo, .inr (4, [.int 0, .ref m1, .ref m2, .ref m3, .ref m4, .int mn]))] := hD
  refine lv_iload_n hx hb dX2_isThrown_13 rfl (lv_at hl 1 rfl) ?_
  have hP9 := hP.sub (ws' := [(mo, .inr (4, [.int 0, .ref m1, .ref m2, .ref m3, .ref m4, .int mn]))]) [0] rfl
  have hD9 := hD.sub (ws' := [(mo, .inr (4, [.int 0, .ref m1, .ref m2, .ref m3, .ref m4, .int mn]))]) [0] (by decide) rfl
  exact W.zret (v := 0) hx hb hr (by decide) (fun t ht hW => ⟨⟨0, (), rfl, (rfl), by rw [ht]; exact hP9, va_K.moved hW.alike hK, hD9⟩, hS.F ht⟩) hS.2.2 dX2_isThrown_14
theorem in_X2_isBad_X2 : ∀ w ∈ wsX20, w ∈ wsX2_isBad := (fun _ h => List.mem_cons_of_mem _ (List.mem_append_left _ (List.mem_append_right _ h)))
set_option maxHeartbeats 4000000 in
set_option maxRecDepth 100000 in
theorem c_X2_isBad (l : Launch) (D : va_G) (cI : ClassId) (mo : Nat) (m1 : Nat) (m2 : Nat) (m3 : Nat) (m4 : Nat) (sz : Nat) (th : Int32) (mn : Int32) (hf : Nat → Int32) (i0 : Int32) (i1 : Int32) (i2 : Int32) (i3 : Int32) (gp0 : vp_in i0 12) (gp1 : vp_in i1 12) (gp2 : vp_in i2 12) (gp3 : vp_in i3 12) (g0 : ¬ hf i3.toNatClampNeg = 0) : Met l yX2_isBad wsX2_isBad ({ frames := 1, cells := 0, slots := 0, locals := 22 }) (va_Pc [.ref mo, .int i0, .int i1, .int i2, .int i3] (ny_pre D [(cI, .int)] [(mo, .inr (4, [.int th, .ref m1, .ref m2, .ref m3, .ref m4, .int mn])), (m1, .inl (cI, 12, .inl hf))] sz)) (va_Qi (fun (r : Int32) (u : Unit) => r = 0) (fun (u : Unit) t => ny_at D [(cI, .int)] (va_A [(mo, .inr (4, [.int th, .ref m1, .ref m2, .ref m3, .ref m4, .int mn])), (m1, .inl (cI, 12, .inl hf))] sz) [(mo, .inr (4, [.int 0, .ref m1, .ref m2, .ref m3, .ref m4, .int mn])), (m1, .inl (cI, 12, .inl hf))] t) (va_A [(mo, .inr (4, [.int th, .ref m1, .ref m2, .ref m3, .ref m4, .int mn])), (m1, .inl (cI, 12, .inl hf))] sz)) 0 0 (va_A [(mo, .inr (4, [.int th, .ref m1, .ref m2, .ref m3, .ref m4, .int mn])), (m1, .inl (cI, 12, .inl hf))] sz) := by
  refine Met.ofW (cc := cX2_isBad) (maxL := 5) (ret := (some .boolean)) (by decide) rfl ?_
  intro p e s m args below meth c s₁ B hml hv
  obtain ⟨rfl, hsz, hP, hK, hD0, hE⟩ := hv
  have hx := B.exec
  have hb := B.bytes
  have hr := B.returns
  have hts := atoms_spec (ws := wsX2_isBad) B.pre
  have hown : s.vm.findClass RX2 = some m.cls := findClass_of_methodNamed B.named
  have hlocks := B.notSynchronized
  subst hsz
  have hD := hD0.self (sz := s.heap.size)
  generalize hAe : va_A [(mo, .inr (4, [.int th, .ref m1, .ref m2, .ref m3, .ref m4, .int mn])), (m1, .inl (cI, 12, .inl hf))] s.heap.size = A at hD hE ⊢
  have hA : ∀ q : Nat, s.heap.size ≤ q → A q := fun q h => by rw [← hAe]; exact Or.inr h
  have hS : va_S A s.heap s.heap [] := va_S.rf
  have hl := lv_entry ([.ref mo, .int i0, .int i1, .int i2, .int i3]) (n := 5) (Nat.le_of_ble_eq_true rfl)
  rw [lg_entry_eq]
  generalize (lg_sl ([.ref mo, .int i0, .int i1, .int i2, .int i3]) ++ List.replicate (5 - (lg_sl ([.ref mo, .int i0, .int i1, .int i2, .int i3])).length) Slot.unset).toArray = ls at hl ⊢
  have hl : lv_has ls 5 [(0, .ref mo), (1, .int i0), (2, .int i1), (3, .int i2), (4, .int i3)] := hl
  refine lv_aload_n hx hb dX2_isBad_0 rfl (lv_at hl 0 rfl) ?_
  refine lv_iload_n hx hb dX2_isBad_1 rfl (lv_at hl 1 rfl) ?_
  refine vp_callSi (va_Run.run (va_runS (As := [.int i0]) (rest := [.ref mo]) ⟨hx, hb, hml, hown, hts⟩ (c_X2_isPlace l i0 (by assumption)) (va_cwS 1 hts gX2_isBad_X2_isPlace rfl rfl rfl (by decide +kernel) ⟨Nat.le_of_ble_eq_true rfl, Nat.le_of_ble_eq_true rfl⟩) ⟨ny_blindT, fun U hU hW => ⟨rfl, trivial⟩⟩ rfl rfl hl.1 rfl (lv_room (Nat.le_of_ble_eq_true rfl)) dX2_isBad_2 ⟨Nat.le_of_ble_eq_true rfl, Nat.le_of_ble_eq_true rfl⟩)) (fun r_2 hw_2 => ?_)
  have hw_2 : r_2 = 1 := hw_2
  subst hw_2
  refine lv_if_eq (tgt := 30) hx hb dX2_isBad_5 (by decide) (fun c_5 => absurd c_5 (show ¬ ((1 : Int32) = 0) by  decide)) (fun c_5 => ?_)
  refine lv_iload_n hx hb dX2_isBad_8 rfl (lv_at hl 2 rfl) ?_
  refine vp_callSi (va_Run.run (va_runS (As := [.int i1]) (rest := [.ref mo]) ⟨hx, hb, hml, hown, hts⟩ (c_X2_isPlace l i1 (by assumption)) (va_cwS 1 hts gX2_isBad_X2_isPlace rfl rfl rfl (by decide +kernel) ⟨Nat.le_of_ble_eq_true rfl, Nat.le_of_ble_eq_true rfl⟩) ⟨ny_blindT, fun U hU hW => ⟨rfl, trivial⟩⟩ rfl rfl hl.1 rfl (lv_room (Nat.le_of_ble_eq_true rfl)) dX2_isBad_9 ⟨Nat.le_of_ble_eq_true rfl, Nat.le_of_ble_eq_true rfl⟩)) (fun r_9 hw_9 => ?_)
  have hw_9 : r_9 = 1 := hw_9
  subst hw_9
  refine lv_if_eq (tgt := 30) hx hb dX2_isBad_12 (by decide) (fun c_12 => absurd c_12 (show ¬ ((1 : Int32) = 0) by  decide)) (fun c_12 => ?_)
  refine lv_iload_n hx hb dX2_isBad_15 rfl (lv_at hl 3 rfl) ?_
  refine vp_callSi (va_Run.run (va_runS (As := [.int i2]) (rest := [.ref mo]) ⟨hx, hb, hml, hown, hts⟩ (c_X2_isPlace l i2 (by assumption)) (va_cwS 1 hts gX2_isBad_X2_isPlace rfl rfl rfl (by decide +kernel) ⟨Nat.le_of_ble_eq_true rfl, Nat.le_of_ble_eq_true rfl⟩) ⟨ny_blindT, fun U hU hW => ⟨rfl, trivial⟩⟩ rfl rfl hl.1 rfl (lv_room (Nat.le_of_ble_eq_true rfl)) dX2_isBad_16 ⟨Nat.le_of_ble_eq_true rfl, Nat.le_of_ble_eq_true rfl⟩)) (fun r_16 hw_16 => ?_)
  have hw_16 : r_16 = 1 := hw_16
  subst hw_16
  refine lv_if_eq (tgt := 30) hx hb dX2_isBad_19 (by decide) (fun c_19 => absurd c_19 (show ¬ ((1 : Int32) = 0) by  decide)) (fun c_19 => ?_)
  refine lv_iload hx hb dX2_isBad_22 (lv_at hl 4 rfl) ?_
  refine vp_callSi (va_Run.run (va_runS (As := [.int i3]) (rest := [.ref mo]) ⟨hx, hb, hml, hown, hts⟩ (c_X2_isPlace l i3 (by assumption)) (va_cwS 1 hts gX2_isBad_X2_isPlace rfl rfl rfl (by decide +kernel) ⟨Nat.le_of_ble_eq_true rfl, Nat.le_of_ble_eq_true rfl⟩) ⟨ny_blindT, fun U hU hW => ⟨rfl, trivial⟩⟩ rfl rfl hl.1 rfl (lv_room (Nat.le_of_ble_eq_true rfl)) dX2_isBad_24 ⟨Nat.le_of_ble_eq_true rfl, Nat.le_of_ble_eq_true rfl⟩)) (fun r_24 hw_24 => ?_)
  have hw_24 : r_24 = 1 := hw_24
  subst hw_24
  refine lv_if_ne (tgt := 34) hx hb dX2_isBad_27 (by decide) (fun c_27 => ?_) (fun c_27 => absurd c_27 (show ¬ ((1 : Int32) = 0) by  decide))
  refine lv_iconst (v := 0) hx hb dX2_isBad_34 (by decide) ?_
  refine lv_iconst (v := 1) hx hb dX2_isBad_35 (by decide) ?_
  refine ny_i (wc := [(mo, .inr (4, [.int th, .ref m1, .ref m2, .ref m3, .ref m4, .int mn]))]) (wr := [(m1, .inl (cI, 12, .inl hf))]) hP hD hS hA [0] [1] rfl rfl (by decide) (by decide) (va_runV (As := [.int 0, .int 1]) (rest := []) ⟨hx, hb, hml, hown, hts⟩ (c_X2_isThrown_0 l D mo m1 m2 m3 m4 s.heap.size th mn 1) (cwV 2 hts gX2_isBad_X2_isThrown rfl rfl rfl (by decide +kernel) ⟨Nat.le_of_ble_eq_true rfl, Nat.le_of_ble_eq_true rfl⟩) ⟨ny_blind, va_recv hK hP (ci := 4) (q0 := 0) rfl rfl, fun U hU hW => ⟨rfl, ny_preU hE hP hK hD hS hA [0] rfl (by decide) rfl [] rfl U hU hW⟩⟩ rfl rfl hl.1 rfl (lv_room (Nat.le_of_ble_eq_true rfl)) dX2_isBad_36 ⟨Nat.le_of_ble_eq_true rfl, Nat.le_of_ble_eq_true rfl⟩) (fun r_36 u H locs hw_36 hP hD hS => ?_)
  have hP : va_P D vwCl [(m1, .inl (cI, 12, .inl hf)), (mo, .inr (4, [.int 0, .ref m1, .ref m2, .ref m3, .ref m4, .int mn]))] H := hP
  have hD : va_D A [(m1, .inl (cI, 12, .inl hf)), (mo, .inr (4, [.int 0, .ref m1, .ref m2, .ref m3, .ref m4, .int mn]))] := hD
  have hw_36 : r_36 = 0 := hw_36
  subst hw_36
  refine lv_if_ne (tgt := 65) hx hb dX2_isBad_39 (by decide) (fun c_39 => absurd (show (0 : Int32) = 0 by  decide) c_39) (fun c_39 => ?_)
  refine lv_aload_n hx hb dX2_isBad_42 rfl (lv_at hl 0 rfl) ?_
  refine lv_aload_n hx hb dX2_isBad_43 rfl (lv_at hl 0 rfl) ?_
  refine va_get (D := D) (ci := 4) (v := .ref m1) (C := RX2) (T := TX2) (N := 6) hx hb hts in_X2_isBad_X2 hown hK hP 1 rfl rfl 1 (by decide) (hts (.fieldLink RX2 7 "NearestclockModel" "eighths" "[I") (List.mem_of_getElem? (i := 1) rfl)) (fun _ h9 => h9) rfl dX2_isBad_44 ?_
  refine lv_iload hx hb dX2_isBad_47 (lv_at hl 4 rfl) ?_
  refine va_iald hx hb hK hP 0 0 rfl rfl (by assumption) dX2_isBad_49 ?_
  refine lv_if_ne (tgt := 57) hx hb dX2_isBad_50 (by decide) (fun c_50 => ?_) (fun c_50 => absurd c_50 (show ¬ (((hf i3.toNatClampNeg) : Int32) = 0) from g0))
  refine lv_iconst (v := 0) hx hb dX2_isBad_57 (by decide) ?_
  refine lv_iconst (v := 2) hx hb dX2_isBad_58 (by decide) ?_
  refine ny_i (wc := [(mo, .inr (4, [.int 0, .ref m1, .ref m2, .ref m3, .ref m4, .int mn]))]) (wr := [(m1, .inl (cI, 12, .inl hf))]) hP hD hS hA [1] [0] rfl rfl (by decide) (by decide) (va_runV (As := [.int 0, .int 2]) (rest := []) ⟨hx, hb, hml, hown, hts⟩ (c_X2_isThrown_0 l D mo m1 m2 m3 m4 H.size 0 mn 2) (cwV 2 hts gX2_isBad_X2_isThrown rfl rfl rfl (by decide +kernel) ⟨Nat.le_of_ble_eq_true rfl, Nat.le_of_ble_eq_true rfl⟩) ⟨ny_blind, va_recv hK hP (ci := 4) (q0 := 1) rfl rfl, fun U hU hW => ⟨rfl, ny_preU hE hP hK hD hS hA [1] rfl (by decide) rfl [] rfl U hU hW⟩⟩ rfl rfl hl.1 rfl (lv_room (Nat.le_of_ble_eq_true rfl)) dX2_isBad_59 ⟨Nat.le_of_ble_eq_true rfl, Nat.le_of_ble_eq_true rfl⟩) (fun r_59 u H locs hw_59 hP hD hS => ?_)
  have hP : va_P D vwCl [(m1, .inl (cI, 12, .inl hf)), (mo, .inr (4, [.int 0, .ref m1, .ref m2, .ref m3, .ref m4, .int mn]))] H := hP
  have hD : va_D A [(m1, .inl (cI, 12, .inl hf)), (mo, .inr (4, [.int 0, .ref m1, .ref m2, .ref m3, .ref m4, .int mn]))] := hD
  have hw_59 : r_59 = 0 := hw_59
  subst hw_59
  refine lv_if_eq (tgt := 69) hx hb dX2_isBad_62 (by decide) (fun c_62 => ?_) (fun c_62 => absurd (show (0 : Int32) = 0 by  decide) c_62)
  refine lv_iconst (v := 0) hx hb dX2_isBad_69 (by decide) ?_
  have hP9 := hP.sub (ws' := [(mo, .inr (4, [.int 0, .ref m1, .ref m2, .ref m3, .ref m4, .int mn])), (m1, .inl (cI, 12, .inl hf))]) [1, 0] rfl
  have hD9 := hD.sub (ws' := [(mo, .inr (4, [.int 0, .ref m1, .ref m2, .ref m3, .ref m4, .int mn])), (m1, .inl (cI, 12, .inl hf))]) [1, 0] (by decide) rfl
  exact W.zret (v := 0) hx hb hr (by decide) (fun t ht hW => ⟨⟨0, (), rfl, (rfl), by rw [ht]; exact hP9, va_K.moved hW.alike hK, hD9⟩, hS.F ht⟩) hS.2.2 dX2_isBad_70
set_option maxHeartbeats 4000000 in
set_option maxRecDepth 100000 in
theorem c_X2_isBad_noP (l : Launch) (D : va_G) (cI : ClassId) (mo : Nat) (m1 : Nat) (m2 : Nat) (m3 : Nat) (m4 : Nat) (sz : Nat) (th : Int32) (mn : Int32) (hf : Nat → Int32) (i0 : Int32) (i1 : Int32) (i2 : Int32) (i3 : Int32) (gb : ¬ vp_in i0 12 ∨ (¬ vp_in i1 12 ∨ (¬ vp_in i2 12 ∨ ¬ vp_in i3 12))) : Met l yX2_isBad wsX2_isBad ({ frames := 1, cells := 0, slots := 0, locals := 22 }) (va_Pc [.ref mo, .int i0, .int i1, .int i2, .int i3] (ny_pre D [(cI, .int)] [(mo, .inr (4, [.int th, .ref m1, .ref m2, .ref m3, .ref m4, .int mn])), (m1, .inl (cI, 12, .inl hf))] sz)) (va_Qi (fun (r : Int32) (u : Unit) => r = 1) (fun (u : Unit) t => ny_at D [(cI, .int)] (va_A [(mo, .inr (4, [.int th, .ref m1, .ref m2, .ref m3, .ref m4, .int mn])), (m1, .inl (cI, 12, .inl hf))] sz) [(mo, .inr (4, [.int 1, .ref m1, .ref m2, .ref m3, .ref m4, .int mn])), (m1, .inl (cI, 12, .inl hf))] t) (va_A [(mo, .inr (4, [.int th, .ref m1, .ref m2, .ref m3, .ref m4, .int mn])), (m1, .inl (cI, 12, .inl hf))] sz)) 0 0 (va_A [(mo, .inr (4, [.int th, .ref m1, .ref m2, .ref m3, .ref m4, .int mn])), (m1, .inl (cI, 12, .inl hf))] sz) := by
  refine Met.ofW (cc := cX2_isBad) (maxL := 5) (ret := (some .boolean)) (by decide) rfl ?_
  intro p e s m args below meth c s₁ B hml hv
  obtain ⟨rfl, hsz, hP, hK, hD0, hE⟩ := hv
  have hx := B.exec
  have hb := B.bytes
  have hr := B.returns
  have hts := atoms_spec (ws := wsX2_isBad) B.pre
  have hown : s.vm.findClass RX2 = some m.cls := findClass_of_methodNamed B.named
  have hlocks := B.notSynchronized
  subst hsz
  have hD := hD0.self (sz := s.heap.size)
  generalize hAe : va_A [(mo, .inr (4, [.int th, .ref m1, .ref m2, .ref m3, .ref m4, .int mn])), (m1, .inl (cI, 12, .inl hf))] s.heap.size = A at hD hE ⊢
  have hA : ∀ q : Nat, s.heap.size ≤ q → A q := fun q h => by rw [← hAe]; exact Or.inr h
  have hS : va_S A s.heap s.heap [] := va_S.rf
  have hl := lv_entry ([.ref mo, .int i0, .int i1, .int i2, .int i3]) (n := 5) (Nat.le_of_ble_eq_true rfl)
  rw [lg_entry_eq]
  generalize (lg_sl ([.ref mo, .int i0, .int i1, .int i2, .int i3]) ++ List.replicate (5 - (lg_sl ([.ref mo, .int i0, .int i1, .int i2, .int i3])).length) Slot.unset).toArray = ls at hl ⊢
  have hl : lv_has ls 5 [(0, .ref mo), (1, .int i0), (2, .int i1), (3, .int i2), (4, .int i3)] := hl
  refine lv_aload_n hx hb dX2_isBad_0 rfl (lv_at hl 0 rfl) ?_
  refine lv_iload_n hx hb dX2_isBad_1 rfl (lv_at hl 1 rfl) ?_
  by_cases q_2 : vp_in i0 12
  · have gb := gb.resolve_left (fun h => h q_2)
    refine vp_callSi (va_Run.run (va_runS (As := [.int i0]) (rest := [.ref mo]) ⟨hx, hb, hml, hown, hts⟩ (c_X2_isPlace l i0 (by assumption)) (va_cwS 1 hts gX2_isBad_X2_isPlace rfl rfl rfl (by decide +kernel) ⟨Nat.le_of_ble_eq_true rfl, Nat.le_of_ble_eq_true rfl⟩) ⟨ny_blindT, fun U hU hW => ⟨rfl, trivial⟩⟩ rfl rfl hl.1 rfl (lv_room (Nat.le_of_ble_eq_true rfl)) dX2_isBad_2 ⟨Nat.le_of_ble_eq_true rfl, Nat.le_of_ble_eq_true rfl⟩)) (fun r_2 hw_2 => ?_)
    have hw_2 : r_2 = 1 := hw_2
    subst hw_2
    refine lv_if_eq (tgt := 30) hx hb dX2_isBad_5 (by decide) (fun c_5 => absurd c_5 (show ¬ ((1 : Int32) = 0) by  decide)) (fun c_5 => ?_)
    refine lv_iload_n hx hb dX2_isBad_8 rfl (lv_at hl 2 rfl) ?_
    by_cases q_9 : vp_in i1 12
    · have gb := gb.resolve_left (fun h => h q_9)
      refine vp_callSi (va_Run.run (va_runS (As := [.int i1]) (rest := [.ref mo]) ⟨hx, hb, hml, hown, hts⟩ (c_X2_isPlace l i1 (by assumption)) (va_cwS 1 hts gX2_isBad_X2_isPlace rfl rfl rfl (by decide +kernel) ⟨Nat.le_of_ble_eq_true rfl, Nat.le_of_ble_eq_true rfl⟩) ⟨ny_blindT, fun U hU hW => ⟨rfl, trivial⟩⟩ rfl rfl hl.1 rfl (lv_room (Nat.le_of_ble_eq_true rfl)) dX2_isBad_9 ⟨Nat.le_of_ble_eq_true rfl, Nat.le_of_ble_eq_true rfl⟩)) (fun r_9 hw_9 => ?_)
      have hw_9 : r_9 = 1 := hw_9
      subst hw_9
      refine lv_if_eq (tgt := 30) hx hb dX2_isBad_12 (by decide) (fun c_12 => absurd c_12 (show ¬ ((1 : Int32) = 0) by  decide)) (fun c_12 => ?_)
      refine lv_iload_n hx hb dX2_isBad_15 rfl (lv_at hl 3 rfl) ?_
      by_cases q_16 : vp_in i2 12
      · have gb := gb.resolve_left (fun h => h q_16)
        refine vp_callSi (va_Run.run (va_runS (As := [.int i2]) (rest := [.ref mo]) ⟨hx, hb, hml, hown, hts⟩ (c_X2_isPlace l i2 (by assumption)) (va_cwS 1 hts gX2_isBad_X2_isPlace rfl rfl rfl (by decide +kernel) ⟨Nat.le_of_ble_eq_true rfl, Nat.le_of_ble_eq_true rfl⟩) ⟨ny_blindT, fun U hU hW => ⟨rfl, trivial⟩⟩ rfl rfl hl.1 rfl (lv_room (Nat.le_of_ble_eq_true rfl)) dX2_isBad_16 ⟨Nat.le_of_ble_eq_true rfl, Nat.le_of_ble_eq_true rfl⟩)) (fun r_16 hw_16 => ?_)
        have hw_16 : r_16 = 1 := hw_16
        subst hw_16
        refine lv_if_eq (tgt := 30) hx hb dX2_isBad_19 (by decide) (fun c_19 => absurd c_19 (show ¬ ((1 : Int32) = 0) by  decide)) (fun c_19 => ?_)
        refine lv_iload hx hb dX2_isBad_22 (lv_at hl 4 rfl) ?_
        refine vp_callSi (va_Run.run (va_runS (As := [.int i3]) (rest := [.ref mo]) ⟨hx, hb, hml, hown, hts⟩ (c_X2_isPlace_no l i3 (by assumption)) (va_cwS 1 hts gX2_isBad_X2_isPlace rfl rfl rfl (by decide +kernel) ⟨Nat.le_of_ble_eq_true rfl, Nat.le_of_ble_eq_true rfl⟩) ⟨ny_blindT, fun U hU hW => ⟨rfl, trivial⟩⟩ rfl rfl hl.1 rfl (lv_room (Nat.le_of_ble_eq_true rfl)) dX2_isBad_24 ⟨Nat.le_of_ble_eq_true rfl, Nat.le_of_ble_eq_true rfl⟩)) (fun r_24 hw_24 => ?_)
        have hw_24 : r_24 = 0 := hw_24
        subst hw_24
        refine lv_if_ne (tgt := 34) hx hb dX2_isBad_27 (by decide) (fun c_27 => absurd (show (0 : Int32) = 0 by  decide) c_27) (fun c_27 => ?_)
        refine lv_iconst (v := 1) hx hb dX2_isBad_30 (by decide) ?_
        refine lv_goto (tgt := 35) hx hb dX2_isBad_31 (by decide) ?_
        refine lv_iconst (v := 1) hx hb dX2_isBad_35 (by decide) ?_
        refine ny_i (wc := [(mo, .inr (4, [.int th, .ref m1, .ref m2, .ref m3, .ref m4, .int mn]))]) (wr := [(m1, .inl (cI, 12, .inl hf))]) hP hD hS hA [0] [1] rfl rfl (by decide) (by decide) (va_runV (As := [.int 1, .int 1]) (rest := []) ⟨hx, hb, hml, hown, hts⟩ (c_X2_isThrown_1 l D mo m1 m2 m3 m4 s.heap.size th mn 1) (cwV 2 hts gX2_isBad_X2_isThrown rfl rfl rfl (by decide +kernel) ⟨Nat.le_of_ble_eq_true rfl, Nat.le_of_ble_eq_true rfl⟩) ⟨ny_blind, va_recv hK hP (ci := 4) (q0 := 0) rfl rfl, fun U hU hW => ⟨rfl, ny_preU hE hP hK hD hS hA [0] rfl (by decide) rfl [] rfl U hU hW⟩⟩ rfl rfl hl.1 rfl (lv_room (Nat.le_of_ble_eq_true rfl)) dX2_isBad_36 ⟨Nat.le_of_ble_eq_true rfl, Nat.le_of_ble_eq_true rfl⟩) (fun r_36 u H locs hw_36 hP hD hS => ?_)
        have hP : va_P D vwCl [(m1, .inl (cI, 12, .inl hf)), (mo, .inr (4, [.int 1, .ref m1, .ref m2, .ref m3, .ref m4, .int mn]))] H := hP
        have hD : va_D A [(m1, .inl (cI, 12, .inl hf)), (mo, .inr (4, [.int 1, .ref m1, .ref m2, .ref m3, .ref m4, .int mn]))] := hD
        have hw_36 : r_36 = 1 := hw_36
        subst hw_36
        refine lv_if_ne (tgt := 65) hx hb dX2_isBad_39 (by decide) (fun c_39 => ?_) (fun c_39 => absurd c_39 (show ¬ ((1 : Int32) = 0) by  decide))
        refine lv_iconst (v := 1) hx hb dX2_isBad_65 (by decide) ?_
        refine lv_goto (tgt := 70) hx hb dX2_isBad_66 (by decide) ?_
        have hP9 := hP.sub (ws' := [(mo, .inr (4, [.int 1, .ref m1, .ref m2, .ref m3, .ref m4, .int mn])), (m1, .inl (cI, 12, .inl hf))]) [1, 0] rfl
        have hD9 := hD.sub (ws' := [(mo, .inr (4, [.int 1, .ref m1, .ref m2, .ref m3, .ref m4, .int mn])), (m1, .inl (cI, 12, .inl hf))]) [1, 0] (by decide) rfl
        exact W.zret (v := 1) hx hb hr (by decide) (fun t ht hW => ⟨⟨1, (), rfl, (rfl), by rw [ht]; exact hP9, va_K.moved hW.alike hK, hD9⟩, hS.F ht⟩) hS.2.2 dX2_isBad_70
      · refine vp_callSi (va_Run.run (va_runS (As := [.int i2]) (rest := [.ref mo]) ⟨hx, hb, hml, hown, hts⟩ (c_X2_isPlace_no l i2 (by assumption)) (va_cwS 1 hts gX2_isBad_X2_isPlace rfl rfl rfl (by decide +kernel) ⟨Nat.le_of_ble_eq_true rfl, Nat.le_of_ble_eq_true rfl⟩) ⟨ny_blindT, fun U hU hW => ⟨rfl, trivial⟩⟩ rfl rfl hl.1 rfl (lv_room (Nat.le_of_ble_eq_true rfl)) dX2_isBad_16 ⟨Nat.le_of_ble_eq_true rfl, Nat.le_of_ble_eq_true rfl⟩)) (fun r_16 hw_16 => ?_)
        have hw_16 : r_16 = 0 := hw_16
        subst hw_16
        refine lv_if_eq (tgt := 30) hx hb dX2_isBad_19 (by decide) (fun c_19 => ?_) (fun c_19 => absurd (show (0 : Int32) = 0 by  decide) c_19)
        refine lv_iconst (v := 1) hx hb dX2_isBad_30 (by decide) ?_
        refine lv_goto (tgt := 35) hx hb dX2_isBad_31 (by decide) ?_
        refine lv_iconst (v := 1) hx hb dX2_isBad_35 (by decide) ?_
        refine ny_i (wc := [(mo, .inr (4, [.int th, .ref m1, .ref m2, .ref m3, .ref m4, .int mn]))]) (wr := [(m1, .inl (cI, 12, .inl hf))]) hP hD hS hA [0] [1] rfl rfl (by decide) (by decide) (va_runV (As := [.int 1, .int 1]) (rest := []) ⟨hx, hb, hml, hown, hts⟩ (c_X2_isThrown_1 l D mo m1 m2 m3 m4 s.heap.size th mn 1) (cwV 2 hts gX2_isBad_X2_isThrown rfl rfl rfl (by decide +kernel) ⟨Nat.le_of_ble_eq_true rfl, Nat.le_of_ble_eq_true rfl⟩) ⟨ny_blind, va_recv hK hP (ci := 4) (q0 := 0) rfl rfl, fun U hU hW => ⟨rfl, ny_preU hE hP hK hD hS hA [0] rfl (by decide) rfl [] rfl U hU hW⟩⟩ rfl rfl hl.1 rfl (lv_room (Nat.le_of_ble_eq_true rfl)) dX2_isBad_36 ⟨Nat.le_of_ble_eq_true rfl, Nat.le_of_ble_eq_true rfl⟩) (fun r_36 u H locs hw_36 hP hD hS => ?_)
        have hP : va_P D vwCl [(m1, .inl (cI, 12, .inl hf)), (mo, .inr (4, [.int 1, .ref m1, .ref m2, .ref m3, .ref m4, .int mn]))] H := hP
        have hD : va_D A [(m1, .inl (cI, 12, .inl hf)), (mo, .inr (4, [.int 1, .ref m1, .ref m2, .ref m3, .ref m4, .int mn]))] := hD
        have hw_36 : r_36 = 1 := hw_36
        subst hw_36
        refine lv_if_ne (tgt := 65) hx hb dX2_isBad_39 (by decide) (fun c_39 => ?_) (fun c_39 => absurd c_39 (show ¬ ((1 : Int32) = 0) by  decide))
        refine lv_iconst (v := 1) hx hb dX2_isBad_65 (by decide) ?_
        refine lv_goto (tgt := 70) hx hb dX2_isBad_66 (by decide) ?_
        have hP9 := hP.sub (ws' := [(mo, .inr (4, [.int 1, .ref m1, .ref m2, .ref m3, .ref m4, .int mn])), (m1, .inl (cI, 12, .inl hf))]) [1, 0] rfl
        have hD9 := hD.sub (ws' := [(mo, .inr (4, [.int 1, .ref m1, .ref m2, .ref m3, .ref m4, .int mn])), (m1, .inl (cI, 12, .inl hf))]) [1, 0] (by decide) rfl
        exact W.zret (v := 1) hx hb hr (by decide) (fun t ht hW => ⟨⟨1, (), rfl, (rfl), by rw [ht]; exact hP9, va_K.moved hW.alike hK, hD9⟩, hS.F ht⟩) hS.2.2 dX2_isBad_70
    · refine vp_callSi (va_Run.run (va_runS (As := [.int i1]) (rest := [.ref mo]) ⟨hx, hb, hml, hown, hts⟩ (c_X2_isPlace_no l i1 (by assumption)) (va_cwS 1 hts gX2_isBad_X2_isPlace rfl rfl rfl (by decide +kernel) ⟨Nat.le_of_ble_eq_true rfl, Nat.le_of_ble_eq_true rfl⟩) ⟨ny_blindT, fun U hU hW => ⟨rfl, trivial⟩⟩ rfl rfl hl.1 rfl (lv_room (Nat.le_of_ble_eq_true rfl)) dX2_isBad_9 ⟨Nat.le_of_ble_eq_true rfl, Nat.le_of_ble_eq_true rfl⟩)) (fun r_9 hw_9 => ?_)
      have hw_9 : r_9 = 0 := hw_9
      subst hw_9
      refine lv_if_eq (tgt := 30) hx hb dX2_isBad_12 (by decide) (fun c_12 => ?_) (fun c_12 => absurd (show (0 : Int32) = 0 by  decide) c_12)
      refine lv_iconst (v := 1) hx hb dX2_isBad_30 (by decide) ?_
      refine lv_goto (tgt := 35) hx hb dX2_isBad_31 (by decide) ?_
      refine lv_iconst (v := 1) hx hb dX2_isBad_35 (by decide) ?_
      refine ny_i (wc := [(mo, .inr (4, [.int th, .ref m1, .ref m2, .ref m3, .ref m4, .int mn]))]) (wr := [(m1, .inl (cI, 12, .inl hf))]) hP hD hS hA [0] [1] rfl rfl (by decide) (by decide) (va_runV (As := [.int 1, .int 1]) (rest := []) ⟨hx, hb, hml, hown, hts⟩ (c_X2_isThrown_1 l D mo m1 m2 m3 m4 s.heap.size th mn 1) (cwV 2 hts gX2_isBad_X2_isThrown rfl rfl rfl (by decide +kernel) ⟨Nat.le_of_ble_eq_true rfl, Nat.le_of_ble_eq_true rfl⟩) ⟨ny_blind, va_recv hK hP (ci := 4) (q0 := 0) rfl rfl, fun U hU hW => ⟨rfl, ny_preU hE hP hK hD hS hA [0] rfl (by decide) rfl [] rfl U hU hW⟩⟩ rfl rfl hl.1 rfl (lv_room (Nat.le_of_ble_eq_true rfl)) dX2_isBad_36 ⟨Nat.le_of_ble_eq_true rfl, Nat.le_of_ble_eq_true rfl⟩) (fun r_36 u H locs hw_36 hP hD hS => ?_)
      have hP : va_P D vwCl [(m1, .inl (cI, 12, .inl hf)), (mo, .inr (4, [.int 1, .ref m1, .ref m2, .ref m3, .ref m4, .int mn]))] H := hP
      have hD : va_D A [(m1, .inl (cI, 12, .inl hf)), (mo, .inr (4, [.int 1, .ref m1, .ref m2, .ref m3, .ref m4, .int mn]))] := hD
      have hw_36 : r_36 = 1 := hw_36
      subst hw_36
      refine lv_if_ne (tgt := 65) hx hb dX2_isBad_39 (by decide) (fun c_39 => ?_) (fun c_39 => absurd c_39 (show ¬ ((1 : Int32) = 0) by  decide))
      refine lv_iconst (v := 1) hx hb dX2_isBad_65 (by decide) ?_
      refine lv_goto (tgt := 70) hx hb dX2_isBad_66 (by decide) ?_
      have hP9 := hP.sub (ws' := [(mo, .inr (4, [.int 1, .ref m1, .ref m2, .ref m3, .ref m4, .int mn])), (m1, .inl (cI, 12, .inl hf))]) [1, 0] rfl
      have hD9 := hD.sub (ws' := [(mo, .inr (4, [.int 1, .ref m1, .ref m2, .ref m3, .ref m4, .int mn])), (m1, .inl (cI, 12, .inl hf))]) [1, 0] (by decide) rfl
      exact W.zret (v := 1) hx hb hr (by decide) (fun t ht hW => ⟨⟨1, (), rfl, (rfl), by rw [ht]; exact hP9, va_K.moved hW.alike hK, hD9⟩, hS.F ht⟩) hS.2.2 dX2_isBad_70
  · refine vp_callSi (va_Run.run (va_runS (As := [.int i0]) (rest := [.ref mo]) ⟨hx, hb, hml, hown, hts⟩ (c_X2_isPlace_no l i0 (by assumption)) (va_cwS 1 hts gX2_isBad_X2_isPlace rfl rfl rfl (by decide +kernel) ⟨Nat.le_of_ble_eq_true rfl, Nat.le_of_ble_eq_true rfl⟩) ⟨ny_blindT, fun U hU hW => ⟨rfl, trivial⟩⟩ rfl rfl hl.1 rfl (lv_room (Nat.le_of_ble_eq_true rfl)) dX2_isBad_2 ⟨Nat.le_of_ble_eq_true rfl, Nat.le_of_ble_eq_true rfl⟩)) (fun r_2 hw_2 => ?_)
    have hw_2 : r_2 = 0 := hw_2
    subst hw_2
    refine lv_if_eq (tgt := 30) hx hb dX2_isBad_5 (by decide) (fun c_5 => ?_) (fun c_5 => absurd (show (0 : Int32) = 0 by  decide) c_5)
    refine lv_iconst (v := 1) hx hb dX2_isBad_30 (by decide) ?_
    refine lv_goto (tgt := 35) hx hb dX2_isBad_31 (by decide) ?_
    refine lv_iconst (v := 1) hx hb dX2_isBad_35 (by decide) ?_
    refine ny_i (wc := [(mo, .inr (4, [.int th, .ref m1, .ref m2, .ref m3, .ref m4, .int mn]))]) (wr := [(m1, .inl (cI, 12, .inl hf))]) hP hD hS hA [0] [1] rfl rfl (by decide) (by decide) (va_runV (As := [.int 1, .int 1]) (rest := []) ⟨hx, hb, hml, hown, hts⟩ (c_X2_isThrown_1 l D mo m1 m2 m3 m4 s.heap.size th mn 1) (cwV 2 hts gX2_isBad_X2_isThrown rfl rfl rfl (by decide +kernel) ⟨Nat.le_of_ble_eq_true rfl, Nat.le_of_ble_eq_true rfl⟩) ⟨ny_blind, va_recv hK hP (ci := 4) (q0 := 0) rfl rfl, fun U hU hW => ⟨rfl, ny_preU hE hP hK hD hS hA [0] rfl (by decide) rfl [] rfl U hU hW⟩⟩ rfl rfl hl.1 rfl (lv_room (Nat.le_of_ble_eq_true rfl)) dX2_isBad_36 ⟨Nat.le_of_ble_eq_true rfl, Nat.le_of_ble_eq_true rfl⟩) (fun r_36 u H locs hw_36 hP hD hS => ?_)
    have hP : va_P D vwCl [(m1, .inl (cI, 12, .inl hf)), (mo, .inr (4, [.int 1, .ref m1, .ref m2, .ref m3, .ref m4, .int mn]))] H := hP
    have hD : va_D A [(m1, .inl (cI, 12, .inl hf)), (mo, .inr (4, [.int 1, .ref m1, .ref m2, .ref m3, .ref m4, .int mn]))] := hD
    have hw_36 : r_36 = 1 := hw_36
    subst hw_36
    refine lv_if_ne (tgt := 65) hx hb dX2_isBad_39 (by decide) (fun c_39 => ?_) (fun c_39 => absurd c_39 (show ¬ ((1 : Int32) = 0) by  decide))
    refine lv_iconst (v := 1) hx hb dX2_isBad_65 (by decide) ?_
    refine lv_goto (tgt := 70) hx hb dX2_isBad_66 (by decide) ?_
    have hP9 := hP.sub (ws' := [(mo, .inr (4, [.int 1, .ref m1, .ref m2, .ref m3, .ref m4, .int mn])), (m1, .inl (cI, 12, .inl hf))]) [1, 0] rfl
    have hD9 := hD.sub (ws' := [(mo, .inr (4, [.int 1, .ref m1, .ref m2, .ref m3, .ref m4, .int mn])), (m1, .inl (cI, 12, .inl hf))]) [1, 0] (by decide) rfl
    exact W.zret (v := 1) hx hb hr (by decide) (fun t ht hW => ⟨⟨1, (), rfl, (rfl), by rw [ht]; exact hP9, va_K.moved hW.alike hK, hD9⟩, hS.F ht⟩) hS.2.2 dX2_isBad_70
set_option maxHeartbeats 4000000 in
set_option maxRecDepth 100000 in
theorem c_X2_isBad_no0 (l : Launch) (D : va_G) (cI : ClassId) (mo : Nat) (m1 : Nat) (m2 : Nat) (m3 : Nat) (m4 : Nat) (sz : Nat) (th : Int32) (mn : Int32) (hf : Nat → Int32) (i0 : Int32) (i1 : Int32) (i2 : Int32) (i3 : Int32) (gp0 : vp_in i0 12) (gp1 : vp_in i1 12) (gp2 : vp_in i2 12) (gp3 : vp_in i3 12) (g0 : hf i3.toNatClampNeg = 0) : Met l yX2_isBad wsX2_isBad ({ frames := 1, cells := 0, slots := 0, locals := 22 }) (va_Pc [.ref mo, .int i0, .int i1, .int i2, .int i3] (ny_pre D [(cI, .int)] [(mo, .inr (4, [.int th, .ref m1, .ref m2, .ref m3, .ref m4, .int mn])), (m1, .inl (cI, 12, .inl hf))] sz)) (va_Qi (fun (r : Int32) (u : Unit) => r = 1) (fun (u : Unit) t => ny_at D [(cI, .int)] (va_A [(mo, .inr (4, [.int th, .ref m1, .ref m2, .ref m3, .ref m4, .int mn])), (m1, .inl (cI, 12, .inl hf))] sz) [(mo, .inr (4, [.int 2, .ref m1, .ref m2, .ref m3, .ref m4, .int mn])), (m1, .inl (cI, 12, .inl hf))] t) (va_A [(mo, .inr (4, [.int th, .ref m1, .ref m2, .ref m3, .ref m4, .int mn])), (m1, .inl (cI, 12, .inl hf))] sz)) 0 0 (va_A [(mo, .inr (4, [.int th, .ref m1, .ref m2, .ref m3, .ref m4, .int mn])), (m1, .inl (cI, 12, .inl hf))] sz) := by
  refine Met.ofW (cc := cX2_isBad) (maxL := 5) (ret := (some .boolean)) (by decide) rfl ?_
  intro p e s m args below meth c s₁ B hml hv
  obtain ⟨rfl, hsz, hP, hK, hD0, hE⟩ := hv
  have hx := B.exec
  have hb := B.bytes
  have hr := B.returns
  have hts := atoms_spec (ws := wsX2_isBad) B.pre
  have hown : s.vm.findClass RX2 = some m.cls := findClass_of_methodNamed B.named
  have hlocks := B.notSynchronized
  subst hsz
  have hD := hD0.self (sz := s.heap.size)
  generalize hAe : va_A [(mo, .inr (4, [.int th, .ref m1, .ref m2, .ref m3, .ref m4, .int mn])), (m1, .inl (cI, 12, .inl hf))] s.heap.size = A at hD hE ⊢
  have hA : ∀ q : Nat, s.heap.size ≤ q → A q := fun q h => by rw [← hAe]; exact Or.inr h
  have hS : va_S A s.heap s.heap [] := va_S.rf
  have hl := lv_entry ([.ref mo, .int i0, .int i1, .int i2, .int i3]) (n := 5) (Nat.le_of_ble_eq_true rfl)
  rw [lg_entry_eq]
  generalize (lg_sl ([.ref mo, .int i0, .int i1, .int i2, .int i3]) ++ List.replicate (5 - (lg_sl ([.ref mo, .int i0, .int i1, .int i2, .int i3])).length) Slot.unset).toArray = ls at hl ⊢
  have hl : lv_has ls 5 [(0, .ref mo), (1, .int i0), (2, .int i1), (3, .int i2), (4, .int i3)] := hl
  refine lv_aload_n hx hb dX2_isBad_0 rfl (lv_at hl 0 rfl) ?_
  refine lv_iload_n hx hb dX2_isBad_1 rfl (lv_at hl 1 rfl) ?_
  refine vp_callSi (va_Run.run (va_runS (As := [.int i0]) (rest := [.ref mo]) ⟨hx, hb, hml, hown, hts⟩ (c_X2_isPlace l i0 (by assumption)) (va_cwS 1 hts gX2_isBad_X2_isPlace rfl rfl rfl (by decide +kernel) ⟨Nat.le_of_ble_eq_true rfl, Nat.le_of_ble_eq_true rfl⟩) ⟨ny_blindT, fun U hU hW => ⟨rfl, trivial⟩⟩ rfl rfl hl.1 rfl (lv_room (Nat.le_of_ble_eq_true rfl)) dX2_isBad_2 ⟨Nat.le_of_ble_eq_true rfl, Nat.le_of_ble_eq_true rfl⟩)) (fun r_2 hw_2 => ?_)
  have hw_2 : r_2 = 1 := hw_2
  subst hw_2
  refine lv_if_eq (tgt := 30) hx hb dX2_isBad_5 (by decide) (fun c_5 => absurd c_5 (show ¬ ((1 : Int32) = 0) by  decide)) (fun c_5 => ?_)
  refine lv_iload_n hx hb dX2_isBad_8 rfl (lv_at hl 2 rfl) ?_
  refine vp_callSi (va_Run.run (va_runS (As := [.int i1]) (rest := [.ref mo]) ⟨hx, hb, hml, hown, hts⟩ (c_X2_isPlace l i1 (by assumption)) (va_cwS 1 hts gX2_isBad_X2_isPlace rfl rfl rfl (by decide +kernel) ⟨Nat.le_of_ble_eq_true rfl, Nat.le_of_ble_eq_true rfl⟩) ⟨ny_blindT, fun U hU hW => ⟨rfl, trivial⟩⟩ rfl rfl hl.1 rfl (lv_room (Nat.le_of_ble_eq_true rfl)) dX2_isBad_9 ⟨Nat.le_of_ble_eq_true rfl, Nat.le_of_ble_eq_true rfl⟩)) (fun r_9 hw_9 => ?_)
  have hw_9 : r_9 = 1 := hw_9
  subst hw_9
  refine lv_if_eq (tgt := 30) hx hb dX2_isBad_12 (by decide) (fun c_12 => absurd c_12 (show ¬ ((1 : Int32) = 0) by  decide)) (fun c_12 => ?_)
  refine lv_iload_n hx hb dX2_isBad_15 rfl (lv_at hl 3 rfl) ?_
  refine vp_callSi (va_Run.run (va_runS (As := [.int i2]) (rest := [.ref mo]) ⟨hx, hb, hml, hown, hts⟩ (c_X2_isPlace l i2 (by assumption)) (va_cwS 1 hts gX2_isBad_X2_isPlace rfl rfl rfl (by decide +kernel) ⟨Nat.le_of_ble_eq_true rfl, Nat.le_of_ble_eq_true rfl⟩) ⟨ny_blindT, fun U hU hW => ⟨rfl, trivial⟩⟩ rfl rfl hl.1 rfl (lv_room (Nat.le_of_ble_eq_true rfl)) dX2_isBad_16 ⟨Nat.le_of_ble_eq_true rfl, Nat.le_of_ble_eq_true rfl⟩)) (fun r_16 hw_16 => ?_)
  have hw_16 : r_16 = 1 := hw_16
  subst hw_16
  refine lv_if_eq (tgt := 30) hx hb dX2_isBad_19 (by decide) (fun c_19 => absurd c_19 (show ¬ ((1 : Int32) = 0) by  decide)) (fun c_19 => ?_)
  refine lv_iload hx hb dX2_isBad_22 (lv_at hl 4 rfl) ?_
  refine vp_callSi (va_Run.run (va_runS (As := [.int i3]) (rest := [.ref mo]) ⟨hx, hb, hml, hown, hts⟩ (c_X2_isPlace l i3 (by assumption)) (va_cwS 1 hts gX2_isBad_X2_isPlace rfl rfl rfl (by decide +kernel) ⟨Nat.le_of_ble_eq_true rfl, Nat.le_of_ble_eq_true rfl⟩) ⟨ny_blindT, fun U hU hW => ⟨rfl, trivial⟩⟩ rfl rfl hl.1 rfl (lv_room (Nat.le_of_ble_eq_true rfl)) dX2_isBad_24 ⟨Nat.le_of_ble_eq_true rfl, Nat.le_of_ble_eq_true rfl⟩)) (fun r_24 hw_24 => ?_)
  have hw_24 : r_24 = 1 := hw_24
  subst hw_24
  refine lv_if_ne (tgt := 34) hx hb dX2_isBad_27 (by decide) (fun c_27 => ?_) (fun c_27 => absurd c_27 (show ¬ ((1 : Int32) = 0) by  decide))
  refine lv_iconst (v := 0) hx hb dX2_isBad_34 (by decide) ?_
  refine lv_iconst (v := 1) hx hb dX2_isBad_35 (by decide) ?_
  refine ny_i (wc := [(mo, .inr (4, [.int th, .ref m1, .ref m2, .ref m3, .ref m4, .int mn]))]) (wr := [(m1, .inl (cI, 12, .inl hf))]) hP hD hS hA [0] [1] rfl rfl (by decide) (by decide) (va_runV (As := [.int 0, .int 1]) (rest := []) ⟨hx, hb, hml, hown, hts⟩ (c_X2_isThrown_0 l D mo m1 m2 m3 m4 s.heap.size th mn 1) (cwV 2 hts gX2_isBad_X2_isThrown rfl rfl rfl (by decide +kernel) ⟨Nat.le_of_ble_eq_true rfl, Nat.le_of_ble_eq_true rfl⟩) ⟨ny_blind, va_recv hK hP (ci := 4) (q0 := 0) rfl rfl, fun U hU hW => ⟨rfl, ny_preU hE hP hK hD hS hA [0] rfl (by decide) rfl [] rfl U hU hW⟩⟩ rfl rfl hl.1 rfl (lv_room (Nat.le_of_ble_eq_true rfl)) dX2_isBad_36 ⟨Nat.le_of_ble_eq_true rfl, Nat.le_of_ble_eq_true rfl⟩) (fun r_36 u H locs hw_36 hP hD hS => ?_)
  have hP : va_P D vwCl [(m1, .inl (cI, 12, .inl hf)), (mo, .inr (4, [.int 0, .ref m1, .ref m2, .ref m3, .ref m4, .int mn]))] H := hP
  have hD : va_D A [(m1, .inl (cI, 12, .inl hf)), (mo, .inr (4, [.int 0, .ref m1, .ref m2, .ref m3, .ref m4, .int mn]))] := hD
  have hw_36 : r_36 = 0 := hw_36
  subst hw_36
  refine lv_if_ne (tgt := 65) hx hb dX2_isBad_39 (by decide) (fun c_39 => absurd (show (0 : Int32) = 0 by  decide) c_39) (fun c_39 => ?_)
  refine lv_aload_n hx hb dX2_isBad_42 rfl (lv_at hl 0 rfl) ?_
  refine lv_aload_n hx hb dX2_isBad_43 rfl (lv_at hl 0 rfl) ?_
  refine va_get (D := D) (ci := 4) (v := .ref m1) (C := RX2) (T := TX2) (N := 6) hx hb hts in_X2_isBad_X2 hown hK hP 1 rfl rfl 1 (by decide) (hts (.fieldLink RX2 7 "NearestclockModel" "eighths" "[I") (List.mem_of_getElem? (i := 1) rfl)) (fun _ h9 => h9) rfl dX2_isBad_44 ?_
  refine lv_iload hx hb dX2_isBad_47 (lv_at hl 4 rfl) ?_
  refine va_iald hx hb hK hP 0 0 rfl rfl (by assumption) dX2_isBad_49 ?_
  refine lv_if_ne (tgt := 57) hx hb dX2_isBad_50 (by decide) (fun c_50 => absurd (show ((hf i3.toNatClampNeg) : Int32) = 0 from g0) c_50) (fun c_50 => ?_)
  refine lv_iconst (v := 1) hx hb dX2_isBad_53 (by decide) ?_
  refine lv_goto (tgt := 58) hx hb dX2_isBad_54 (by decide) ?_
  refine lv_iconst (v := 2) hx hb dX2_isBad_58 (by decide) ?_
  refine ny_i (wc := [(mo, .inr (4, [.int 0, .ref m1, .ref m2, .ref m3, .ref m4, .int mn]))]) (wr := [(m1, .inl (cI, 12, .inl hf))]) hP hD hS hA [1] [0] rfl rfl (by decide) (by decide) (va_runV (As := [.int 1, .int 2]) (rest := []) ⟨hx, hb, hml, hown, hts⟩ (c_X2_isThrown_1 l D mo m1 m2 m3 m4 H.size 0 mn 2) (cwV 2 hts gX2_isBad_X2_isThrown rfl rfl rfl (by decide +kernel) ⟨Nat.le_of_ble_eq_true rfl, Nat.le_of_ble_eq_true rfl⟩) ⟨ny_blind, va_recv hK hP (ci := 4) (q0 := 1) rfl rfl, fun U hU hW => ⟨rfl, ny_preU hE hP hK hD hS hA [1] rfl (by decide) rfl [] rfl U hU hW⟩⟩ rfl rfl hl.1 rfl (lv_room (Nat.le_of_ble_eq_true rfl)) dX2_isBad_59 ⟨Nat.le_of_ble_eq_true rfl, Nat.le_of_ble_eq_true rfl⟩) (fun r_59 u H locs hw_59 hP hD hS => ?_)
  have hP : va_P D vwCl [(m1, .inl (cI, 12, .inl hf)), (mo, .inr (4, [.int 2, .ref m1, .ref m2, .ref m3, .ref m4, .int mn]))] H := hP
  have hD : va_D A [(m1, .inl (cI, 12, .inl hf)), (mo, .inr (4, [.int 2, .ref m1, .ref m2, .ref m3, .ref m4, .int mn]))] := hD
  have hw_59 : r_59 = 1 := hw_59
  subst hw_59
  refine lv_if_eq (tgt := 69) hx hb dX2_isBad_62 (by decide) (fun c_62 => absurd c_62 (show ¬ ((1 : Int32) = 0) by  decide)) (fun c_62 => ?_)
  refine lv_iconst (v := 1) hx hb dX2_isBad_65 (by decide) ?_
  refine lv_goto (tgt := 70) hx hb dX2_isBad_66 (by decide) ?_
  have hP9 := hP.sub (ws' := [(mo, .inr (4, [.int 2, .ref m1, .ref m2, .ref m3, .ref m4, .int mn])), (m1, .inl (cI, 12, .inl hf))]) [1, 0] rfl
  have hD9 := hD.sub (ws' := [(mo, .inr (4, [.int 2, .ref m1, .ref m2, .ref m3, .ref m4, .int mn])), (m1, .inl (cI, 12, .inl hf))]) [1, 0] (by decide) rfl
  exact W.zret (v := 1) hx hb hr (by decide) (fun t ht hW => ⟨⟨1, (), rfl, (rfl), by rw [ht]; exact hP9, va_K.moved hW.alike hK, hD9⟩, hS.F ht⟩) hS.2.2 dX2_isBad_70
theorem in_X2_lays_X2 : ∀ w ∈ wsX20, w ∈ wsX2_lays := (fun _ h => List.mem_cons_of_mem _ (List.mem_append_left _ (List.mem_append_right _ h)))
set_option maxHeartbeats 4000000 in
set_option maxRecDepth 100000 in
theorem c_X2_lays (l : Launch) (D : va_G) (cI : ClassId) (cZ : ClassId) (mo : Nat) (m1 : Nat) (m2 : Nat) (m3 : Nat) (m4 : Nat) (sz : Nat) (th : Int32) (mn : Int32) (hf : Nat → Int32) (bf : Nat → Int32) (i0 : Int32) (i1 : Int32) (i2 : Int32) (gp0 : vp_in i0 12) (ge : ny_R i1) (gz : ny_B i2) : Met l yX2_lays wsX2_lays ({ frames := 2, cells := 0, slots := 0, locals := 47 }) (va_Pc [.ref mo, .int i0, .int i1, .int i2] (ny_pre D [(cI, .int), (cZ, .boolean)] [(mo, .inr (4, [.int th, .ref m1, .ref m2, .ref m3, .ref m4, .int mn])), (m1, .inl (cI, 12, .inl hf)), (m2, .inl (cZ, 12, .inl bf))] sz)) (va_Ql (fun (r : Int64) (u : Unit) => r = f_bt i1 i2) (fun (u : Unit) t => ny_at D [(cI, .int), (cZ, .boolean)] (va_A [(mo, .inr (4, [.int th, .ref m1, .ref m2, .ref m3, .ref m4, .int mn])), (m1, .inl (cI, 12, .inl hf)), (m2, .inl (cZ, 12, .inl bf))] sz) [(mo, .inr (4, [.int th, .ref m1, .ref m2, .ref m3, .ref m4, .int mn])), (m1, .inl (cI, 12, .inl (upd hf i0.toNatClampNeg i1))), (m2, .inl (cZ, 12, .inl (upd bf i0.toNatClampNeg (f_z i1 i2))))] t) (va_A [(mo, .inr (4, [.int th, .ref m1, .ref m2, .ref m3, .ref m4, .int mn])), (m1, .inl (cI, 12, .inl hf)), (m2, .inl (cZ, 12, .inl bf))] sz)) 0 0 (va_A [(mo, .inr (4, [.int th, .ref m1, .ref m2, .ref m3, .ref m4, .int mn])), (m1, .inl (cI, 12, .inl hf)), (m2, .inl (cZ, 12, .inl bf))] sz) := by
  refine Met.ofW (cc := cX2_lays) (maxL := 4) (ret := (some .long)) (by decide) rfl ?_
  intro p e s m args below meth c s₁ B hml hv
  obtain ⟨rfl, hsz, hP, hK, hD0, hE⟩ := hv
  have hx := B.exec
  have hb := B.bytes
  have hr := B.returns
  have hts := atoms_spec (ws := wsX2_lays) B.pre
  have hown : s.vm.findClass RX2 = some m.cls := findClass_of_methodNamed B.named
  have hlocks := B.notSynchronized
  subst hsz
  have hD := hD0.self (sz := s.heap.size)
  generalize hAe : va_A [(mo, .inr (4, [.int th, .ref m1, .ref m2, .ref m3, .ref m4, .int mn])), (m1, .inl (cI, 12, .inl hf)), (m2, .inl (cZ, 12, .inl bf))] s.heap.size = A at hD hE ⊢
  have hA : ∀ q : Nat, s.heap.size ≤ q → A q := fun q h => by rw [← hAe]; exact Or.inr h
  have hS : va_S A s.heap s.heap [] := va_S.rf
  have hl := lv_entry ([.ref mo, .int i0, .int i1, .int i2]) (n := 4) (Nat.le_of_ble_eq_true rfl)
  rw [lg_entry_eq]
  generalize (lg_sl ([.ref mo, .int i0, .int i1, .int i2]) ++ List.replicate (4 - (lg_sl ([.ref mo, .int i0, .int i1, .int i2])).length) Slot.unset).toArray = ls at hl ⊢
  have hl : lv_has ls 4 [(0, .ref mo), (1, .int i0), (2, .int i1), (3, .int i2)] := hl
  refine lv_aload_n hx hb dX2_lays_0 rfl (lv_at hl 0 rfl) ?_
  refine va_get (D := D) (ci := 4) (v := .ref m1) (C := RX2) (T := TX2) (N := 6) hx hb hts in_X2_lays_X2 hown hK hP 0 rfl rfl 1 (by decide) (hts (.fieldLink RX2 7 "NearestclockModel" "eighths" "[I") (List.mem_of_getElem? (i := 1) rfl)) (fun _ h9 => h9) rfl dX2_lays_1 ?_
  refine lv_iload_n hx hb dX2_lays_4 rfl (lv_at hl 1 rfl) ?_
  refine lv_iload_n hx hb dX2_lays_5 rfl (lv_at hl 2 rfl) ?_
  refine va_iast hx hb hK hP hD hS 1 0 rfl rfl (by assumption) dX2_lays_6 (fun H locs hP hD hS => ?_)
  have hP : va_P D vwCl [(mo, .inr (4, [.int th, .ref m1, .ref m2, .ref m3, .ref m4, .int mn])), (m1, .inl (cI, 12, .inl (upd hf i0.toNatClampNeg i1))), (m2, .inl (cZ, 12, .inl bf))] H := hP
  have hD : va_D A [(mo, .inr (4, [.int th, .ref m1, .ref m2, .ref m3, .ref m4, .int mn])), (m1, .inl (cI, 12, .inl (upd hf i0.toNatClampNeg i1))), (m2, .inl (cZ, 12, .inl bf))] := hD
  refine lv_aload_n hx hb dX2_lays_7 rfl (lv_at hl 0 rfl) ?_
  refine va_get (D := D) (ci := 4) (v := .ref m2) (C := RX2) (T := TX2) (N := 6) hx hb hts in_X2_lays_X2 hown hK hP 0 rfl rfl 2 (by decide) (hts (.fieldLink RX2 13 "NearestclockModel" "below" "[Z") (List.mem_of_getElem? (i := 2) rfl)) (fun _ h9 => h9) rfl dX2_lays_8 ?_
  refine lv_iload_n hx hb dX2_lays_11 rfl (lv_at hl 1 rfl) ?_
  refine lv_iload_n hx hb dX2_lays_12 rfl (lv_at hl 2 rfl) ?_
  refine lv_if_ne (tgt := 24) hx hb dX2_lays_13 (by decide) (fun c_13 => ?_) (fun c_13 => ?_)
  · refine lv_iconst (v := 0) hx hb dX2_lays_24 (by decide) ?_
    refine ny_ti (x2 := f_z i1 i2) (n_zn c_13) ?_
    refine va_zast hx hb hK hP hD hS 2 1 rfl rfl (by assumption) dX2_lays_25 (fun H locs hP hD hS => ?_)
    rw [ny_nz (f_z_B gz)] at hP hD
    have hP : va_P D vwCl [(mo, .inr (4, [.int th, .ref m1, .ref m2, .ref m3, .ref m4, .int mn])), (m1, .inl (cI, 12, .inl (upd hf i0.toNatClampNeg i1))), (m2, .inl (cZ, 12, .inl (upd bf i0.toNatClampNeg (f_z i1 i2))))] H := hP
    have hD : va_D A [(mo, .inr (4, [.int th, .ref m1, .ref m2, .ref m3, .ref m4, .int mn])), (m1, .inl (cI, 12, .inl (upd hf i0.toNatClampNeg i1))), (m2, .inl (cZ, 12, .inl (upd bf i0.toNatClampNeg (f_z i1 i2))))] := hD
    refine lv_iload_n hx hb dX2_lays_26 rfl (lv_at hl 2 rfl) ?_
    refine lv_iload_n hx hb dX2_lays_27 rfl (lv_at hl 3 rfl) ?_
    refine vp_callSl (va_Run.run (va_runS (As := [.int i1, .int i2]) (rest := []) ⟨hx, hb, hml, hown, hts⟩ (c_X2_bitsOf l i1 i2 ge) (va_cwS 2 hts gX2_lays_X2_bitsOf rfl rfl rfl (by decide +kernel) ⟨Nat.le_of_ble_eq_true rfl, Nat.le_of_ble_eq_true rfl⟩) ⟨ny_blindT, fun U hU hW => ⟨rfl, trivial⟩⟩ rfl rfl hl.1 rfl (lv_room (Nat.le_of_ble_eq_true rfl)) dX2_lays_28 ⟨Nat.le_of_ble_eq_true rfl, Nat.le_of_ble_eq_true rfl⟩)) (fun r_28 hw_28 => ?_)
    have hw_28 : r_28 = f_bt i1 i2 := hw_28
    subst hw_28
    have hP9 := hP.sub (ws' := [(mo, .inr (4, [.int th, .ref m1, .ref m2, .ref m3, .ref m4, .int mn])), (m1, .inl (cI, 12, .inl (upd hf i0.toNatClampNeg i1))), (m2, .inl (cZ, 12, .inl (upd bf i0.toNatClampNeg (f_z i1 i2))))]) [0, 1, 2] rfl
    have hD9 := hD.sub (ws' := [(mo, .inr (4, [.int th, .ref m1, .ref m2, .ref m3, .ref m4, .int mn])), (m1, .inl (cI, 12, .inl (upd hf i0.toNatClampNeg i1))), (m2, .inl (cZ, 12, .inl (upd bf i0.toNatClampNeg (f_z i1 i2))))]) [0, 1, 2] (by decide) rfl
    exact W.lret (v := f_bt i1 i2) hx hb hr (fun t ht hW => ⟨⟨f_bt i1 i2, (), rfl, (rfl), by rw [ht]; exact hP9, va_K.moved hW.alike hK, hD9⟩, hS.F ht⟩) hS.2.2 dX2_lays_31
  · refine lv_iload_n hx hb dX2_lays_16 rfl (lv_at hl 3 rfl) ?_
    refine lv_if_eq (tgt := 24) hx hb dX2_lays_17 (by decide) (fun c_17 => ?_) (fun c_17 => ?_)
    · refine lv_iconst (v := 0) hx hb dX2_lays_24 (by decide) ?_
      refine ny_ti (x2 := f_z i1 i2) (n_z0 c_17.symm) ?_
      refine va_zast hx hb hK hP hD hS 2 1 rfl rfl (by assumption) dX2_lays_25 (fun H locs hP hD hS => ?_)
      rw [ny_nz (f_z_B gz)] at hP hD
      have hP : va_P D vwCl [(mo, .inr (4, [.int th, .ref m1, .ref m2, .ref m3, .ref m4, .int mn])), (m1, .inl (cI, 12, .inl (upd hf i0.toNatClampNeg i1))), (m2, .inl (cZ, 12, .inl (upd bf i0.toNatClampNeg (f_z i1 i2))))] H := hP
      have hD : va_D A [(mo, .inr (4, [.int th, .ref m1, .ref m2, .ref m3, .ref m4, .int mn])), (m1, .inl (cI, 12, .inl (upd hf i0.toNatClampNeg i1))), (m2, .inl (cZ, 12, .inl (upd bf i0.toNatClampNeg (f_z i1 i2))))] := hD
      refine lv_iload_n hx hb dX2_lays_26 rfl (lv_at hl 2 rfl) ?_
      refine lv_iload_n hx hb dX2_lays_27 rfl (lv_at hl 3 rfl) ?_
      refine vp_callSl (va_Run.run (va_runS (As := [.int i1, .int i2]) (rest := []) ⟨hx, hb, hml, hown, hts⟩ (c_X2_bitsOf l i1 i2 ge) (va_cwS 2 hts gX2_lays_X2_bitsOf rfl rfl rfl (by decide +kernel) ⟨Nat.le_of_ble_eq_true rfl, Nat.le_of_ble_eq_true rfl⟩) ⟨ny_blindT, fun U hU hW => ⟨rfl, trivial⟩⟩ rfl rfl hl.1 rfl (lv_room (Nat.le_of_ble_eq_true rfl)) dX2_lays_28 ⟨Nat.le_of_ble_eq_true rfl, Nat.le_of_ble_eq_true rfl⟩)) (fun r_28 hw_28 => ?_)
      have hw_28 : r_28 = f_bt i1 i2 := hw_28
      subst hw_28
      have hP9 := hP.sub (ws' := [(mo, .inr (4, [.int th, .ref m1, .ref m2, .ref m3, .ref m4, .int mn])), (m1, .inl (cI, 12, .inl (upd hf i0.toNatClampNeg i1))), (m2, .inl (cZ, 12, .inl (upd bf i0.toNatClampNeg (f_z i1 i2))))]) [0, 1, 2] rfl
      have hD9 := hD.sub (ws' := [(mo, .inr (4, [.int th, .ref m1, .ref m2, .ref m3, .ref m4, .int mn])), (m1, .inl (cI, 12, .inl (upd hf i0.toNatClampNeg i1))), (m2, .inl (cZ, 12, .inl (upd bf i0.toNatClampNeg (f_z i1 i2))))]) [0, 1, 2] (by decide) rfl
      exact W.lret (v := f_bt i1 i2) hx hb hr (fun t ht hW => ⟨⟨f_bt i1 i2, (), rfl, (rfl), by rw [ht]; exact hP9, va_K.moved hW.alike hK, hD9⟩, hS.F ht⟩) hS.2.2 dX2_lays_31
    · refine lv_iconst (v := 1) hx hb dX2_lays_20 (by decide) ?_
      refine lv_goto (tgt := 25) hx hb dX2_lays_21 (by decide) ?_
      refine ny_ti (x2 := f_z i1 i2) (n_z1 c_13 (n_lz1 gz c_17)) ?_
      refine va_zast hx hb hK hP hD hS 2 1 rfl rfl (by assumption) dX2_lays_25 (fun H locs hP hD hS => ?_)
      rw [ny_nz (f_z_B gz)] at hP hD
      have hP : va_P D vwCl [(mo, .inr (4, [.int th, .ref m1, .ref m2, .ref m3, .ref m4, .int mn])), (m1, .inl (cI, 12, .inl (upd hf i0.toNatClampNeg i1))), (m2, .inl (cZ, 12, .inl (upd bf i0.toNatClampNeg (f_z i1 i2))))] H := hP
      have hD : va_D A [(mo, .inr (4, [.int th, .ref m1, .ref m2, .ref m3, .ref m4, .int mn])), (m1, .inl (cI, 12, .inl (upd hf i0.toNatClampNeg i1))), (m2, .inl (cZ, 12, .inl (upd bf i0.toNatClampNeg (f_z i1 i2))))] := hD
      refine lv_iload_n hx hb dX2_lays_26 rfl (lv_at hl 2 rfl) ?_
      refine lv_iload_n hx hb dX2_lays_27 rfl (lv_at hl 3 rfl) ?_
      refine vp_callSl (va_Run.run (va_runS (As := [.int i1, .int i2]) (rest := []) ⟨hx, hb, hml, hown, hts⟩ (c_X2_bitsOf l i1 i2 ge) (va_cwS 2 hts gX2_lays_X2_bitsOf rfl rfl rfl (by decide +kernel) ⟨Nat.le_of_ble_eq_true rfl, Nat.le_of_ble_eq_true rfl⟩) ⟨ny_blindT, fun U hU hW => ⟨rfl, trivial⟩⟩ rfl rfl hl.1 rfl (lv_room (Nat.le_of_ble_eq_true rfl)) dX2_lays_28 ⟨Nat.le_of_ble_eq_true rfl, Nat.le_of_ble_eq_true rfl⟩)) (fun r_28 hw_28 => ?_)
      have hw_28 : r_28 = f_bt i1 i2 := hw_28
      subst hw_28
      have hP9 := hP.sub (ws' := [(mo, .inr (4, [.int th, .ref m1, .ref m2, .ref m3, .ref m4, .int mn])), (m1, .inl (cI, 12, .inl (upd hf i0.toNatClampNeg i1))), (m2, .inl (cZ, 12, .inl (upd bf i0.toNatClampNeg (f_z i1 i2))))]) [0, 1, 2] rfl
      have hD9 := hD.sub (ws' := [(mo, .inr (4, [.int th, .ref m1, .ref m2, .ref m3, .ref m4, .int mn])), (m1, .inl (cI, 12, .inl (upd hf i0.toNatClampNeg i1))), (m2, .inl (cZ, 12, .inl (upd bf i0.toNatClampNeg (f_z i1 i2))))]) [0, 1, 2] (by decide) rfl
      exact W.lret (v := f_bt i1 i2) hx hb hr (fun t ht hW => ⟨⟨f_bt i1 i2, (), rfl, (rfl), by rw [ht]; exact hP9, va_K.moved hW.alike hK, hD9⟩, hS.F ht⟩) hS.2.2 dX2_lays_31
theorem in_X2_put_X2 : ∀ w ∈ wsX20, w ∈ wsX2_put := (fun _ h => List.mem_cons_of_mem _ (List.mem_append_left _ (List.mem_append_right _ h)))
set_option maxHeartbeats 4000000 in
set_option maxRecDepth 100000 in
theorem c_X2_put (l : Launch) (D : va_G) (cI : ClassId) (cZ : ClassId) (mo : Nat) (m1 : Nat) (m2 : Nat) (m3 : Nat) (m4 : Nat) (sz : Nat) (th : Int32) (mn : Int32) (hf : Nat → Int32) (bf : Nat → Int32) (i0 : Int32) (i1 : Int32) (gp0 : vp_in i0 12) (ge : ny_R i1) (gH : ny_H hf) : Met l yX2_put wsX2_put ({ frames := 2, cells := 0, slots := 0, locals := 47 }) (va_Pc [.ref mo, .int i0, .int i1] (ny_pre D [(cI, .int), (cZ, .boolean)] [(mo, .inr (4, [.int th, .ref m1, .ref m2, .ref m3, .ref m4, .int mn])), (m1, .inl (cI, 12, .inl hf)), (m2, .inl (cZ, 12, .inl bf))] sz)) (va_Ql (fun (r : Int64) (u : Unit) => r = f_bt (hf i0.toNatClampNeg) (bf i0.toNatClampNeg)) (fun (u : Unit) t => ny_at D [(cI, .int), (cZ, .boolean)] (va_A [(mo, .inr (4, [.int th, .ref m1, .ref m2, .ref m3, .ref m4, .int mn])), (m1, .inl (cI, 12, .inl hf)), (m2, .inl (cZ, 12, .inl bf))] sz) [(mo, .inr (4, [.int 0, .ref m1, .ref m2, .ref m3, .ref m4, .int mn])), (m1, .inl (cI, 12, .inl (upd hf i0.toNatClampNeg i1))), (m2, .inl (cZ, 12, .inl (upd bf i0.toNatClampNeg 0)))] t) (va_A [(mo, .inr (4, [.int th, .ref m1, .ref m2, .ref m3, .ref m4, .int mn])), (m1, .inl (cI, 12, .inl hf)), (m2, .inl (cZ, 12, .inl bf))] sz)) 0 0 (va_A [(mo, .inr (4, [.int th, .ref m1, .ref m2, .ref m3, .ref m4, .int mn])), (m1, .inl (cI, 12, .inl hf)), (m2, .inl (cZ, 12, .inl bf))] sz) := by
  refine Met.ofW (cc := cX2_put) (maxL := 5) (ret := (some .long)) (by decide) rfl ?_
  intro p e s m args below meth c s₁ B hml hv
  obtain ⟨rfl, hsz, hP, hK, hD0, hE⟩ := hv
  have hx := B.exec
  have hb := B.bytes
  have hr := B.returns
  have hts := atoms_spec (ws := wsX2_put) B.pre
  have hown : s.vm.findClass RX2 = some m.cls := findClass_of_methodNamed B.named
  have hlocks := B.notSynchronized
  subst hsz
  have hD := hD0.self (sz := s.heap.size)
  generalize hAe : va_A [(mo, .inr (4, [.int th, .ref m1, .ref m2, .ref m3, .ref m4, .int mn])), (m1, .inl (cI, 12, .inl hf)), (m2, .inl (cZ, 12, .inl bf))] s.heap.size = A at hD hE ⊢
  have hA : ∀ q : Nat, s.heap.size ≤ q → A q := fun q h => by rw [← hAe]; exact Or.inr h
  have hS : va_S A s.heap s.heap [] := va_S.rf
  have hl := lv_entry ([.ref mo, .int i0, .int i1]) (n := 5) (Nat.le_of_ble_eq_true rfl)
  rw [lg_entry_eq]
  generalize (lg_sl ([.ref mo, .int i0, .int i1]) ++ List.replicate (5 - (lg_sl ([.ref mo, .int i0, .int i1])).length) Slot.unset).toArray = ls at hl ⊢
  have hl : lv_has ls 5 [(0, .ref mo), (1, .int i0), (2, .int i1)] := hl
  refine lv_aload_n hx hb dX2_put_0 rfl (lv_at hl 0 rfl) ?_
  refine lv_iload_n hx hb dX2_put_1 rfl (lv_at hl 1 rfl) ?_
  refine vp_callSi (va_Run.run (va_runS (As := [.int i0]) (rest := [.ref mo]) ⟨hx, hb, hml, hown, hts⟩ (c_X2_isPlace l i0 (by assumption)) (va_cwS 1 hts gX2_put_X2_isPlace rfl rfl rfl (by decide +kernel) ⟨Nat.le_of_ble_eq_true rfl, Nat.le_of_ble_eq_true rfl⟩) ⟨ny_blindT, fun U hU hW => ⟨rfl, trivial⟩⟩ rfl rfl hl.1 rfl (lv_room (Nat.le_of_ble_eq_true rfl)) dX2_put_2 ⟨Nat.le_of_ble_eq_true rfl, Nat.le_of_ble_eq_true rfl⟩)) (fun r_2 hw_2 => ?_)
  have hw_2 : r_2 = 1 := hw_2
  subst hw_2
  refine lv_if_ne (tgt := 12) hx hb dX2_put_5 (by decide) (fun c_5 => ?_) (fun c_5 => absurd c_5 (show ¬ ((1 : Int32) = 0) by  decide))
  refine lv_iconst (v := 0) hx hb dX2_put_12 (by decide) ?_
  refine lv_iconst (v := 1) hx hb dX2_put_13 (by decide) ?_
  refine ny_i (wc := [(mo, .inr (4, [.int th, .ref m1, .ref m2, .ref m3, .ref m4, .int mn]))]) (wr := [(m1, .inl (cI, 12, .inl hf)), (m2, .inl (cZ, 12, .inl bf))]) hP hD hS hA [0] [1, 2] rfl rfl (by decide) (by decide) (va_runV (As := [.int 0, .int 1]) (rest := []) ⟨hx, hb, hml, hown, hts⟩ (c_X2_isThrown_0 l D mo m1 m2 m3 m4 s.heap.size th mn 1) (cwV 2 hts gX2_put_X2_isThrown rfl rfl rfl (by decide +kernel) ⟨Nat.le_of_ble_eq_true rfl, Nat.le_of_ble_eq_true rfl⟩) ⟨ny_blind, va_recv hK hP (ci := 4) (q0 := 0) rfl rfl, fun U hU hW => ⟨rfl, ny_preU hE hP hK hD hS hA [0] rfl (by decide) rfl [] rfl U hU hW⟩⟩ rfl rfl hl.1 rfl (lv_room (Nat.le_of_ble_eq_true rfl)) dX2_put_14 ⟨Nat.le_of_ble_eq_true rfl, Nat.le_of_ble_eq_true rfl⟩) (fun r_14 u H locs hw_14 hP hD hS => ?_)
  have hP : va_P D vwCl [(m1, .inl (cI, 12, .inl hf)), (m2, .inl (cZ, 12, .inl bf)), (mo, .inr (4, [.int 0, .ref m1, .ref m2, .ref m3, .ref m4, .int mn]))] H := hP
  have hD : va_D A [(m1, .inl (cI, 12, .inl hf)), (m2, .inl (cZ, 12, .inl bf)), (mo, .inr (4, [.int 0, .ref m1, .ref m2, .ref m3, .ref m4, .int mn]))] := hD
  have hw_14 : r_14 = 0 := hw_14
  subst hw_14
  refine lv_if_ne (tgt := 45) hx hb dX2_put_17 (by decide) (fun c_17 => absurd (show (0 : Int32) = 0 by  decide) c_17) (fun c_17 => ?_)
  refine lv_aload_n hx hb dX2_put_20 rfl (lv_at hl 0 rfl) ?_
  refine lv_iload_n hx hb dX2_put_21 rfl (lv_at hl 2 rfl) ?_
  refine lv_bipush (v := -127) hx hb dX2_put_22 (by decide) ?_
  refine lv_icmp_lt (tgt := 33) hx hb dX2_put_24 (by decide) (fun c_24 => absurd c_24 (show ¬ ((i1 : Int32) < (-127)) by  have z : (-127 : Int32).toInt = -127 := rfl; unfold ny_R at ge; rw [fa_lt]; omega)) (fun c_24 => ?_)
  refine lv_iload_n hx hb dX2_put_27 rfl (lv_at hl 2 rfl) ?_
  refine lv_bipush (v := 127) hx hb dX2_put_28 (by decide) ?_
  refine lv_icmp_le (tgt := 37) hx hb dX2_put_30 (by decide) (fun c_30 => ?_) (fun c_30 => absurd (show (i1 : Int32) ≤ 127 by  have z : (127 : Int32).toInt = 127 := rfl; unfold ny_R at ge; rw [fa_le]; omega) c_30)
  refine lv_iconst (v := 0) hx hb dX2_put_37 (by decide) ?_
  refine lv_iconst (v := 2) hx hb dX2_put_38 (by decide) ?_
  refine ny_i (wc := [(mo, .inr (4, [.int 0, .ref m1, .ref m2, .ref m3, .ref m4, .int mn]))]) (wr := [(m1, .inl (cI, 12, .inl hf)), (m2, .inl (cZ, 12, .inl bf))]) hP hD hS hA [2] [0, 1] rfl rfl (by decide) (by decide) (va_runV (As := [.int 0, .int 2]) (rest := []) ⟨hx, hb, hml, hown, hts⟩ (c_X2_isThrown_0 l D mo m1 m2 m3 m4 H.size 0 mn 2) (cwV 2 hts gX2_put_X2_isThrown rfl rfl rfl (by decide +kernel) ⟨Nat.le_of_ble_eq_true rfl, Nat.le_of_ble_eq_true rfl⟩) ⟨ny_blind, va_recv hK hP (ci := 4) (q0 := 2) rfl rfl, fun U hU hW => ⟨rfl, ny_preU hE hP hK hD hS hA [2] rfl (by decide) rfl [] rfl U hU hW⟩⟩ rfl rfl hl.1 rfl (lv_room (Nat.le_of_ble_eq_true rfl)) dX2_put_39 ⟨Nat.le_of_ble_eq_true rfl, Nat.le_of_ble_eq_true rfl⟩) (fun r_39 u H locs hw_39 hP hD hS => ?_)
  have hP : va_P D vwCl [(m1, .inl (cI, 12, .inl hf)), (m2, .inl (cZ, 12, .inl bf)), (mo, .inr (4, [.int 0, .ref m1, .ref m2, .ref m3, .ref m4, .int mn]))] H := hP
  have hD : va_D A [(m1, .inl (cI, 12, .inl hf)), (m2, .inl (cZ, 12, .inl bf)), (mo, .inr (4, [.int 0, .ref m1, .ref m2, .ref m3, .ref m4, .int mn]))] := hD
  have hw_39 : r_39 = 0 := hw_39
  subst hw_39
  refine lv_if_eq (tgt := 47) hx hb dX2_put_42 (by decide) (fun c_42 => ?_) (fun c_42 => absurd (show (0 : Int32) = 0 by  decide) c_42)
  refine lv_aload_n hx hb dX2_put_47 rfl (lv_at hl 0 rfl) ?_
  refine va_get (D := D) (ci := 4) (v := .ref m1) (C := RX2) (T := TX2) (N := 6) hx hb hts in_X2_put_X2 hown hK hP 2 rfl rfl 1 (by decide) (hts (.fieldLink RX2 7 "NearestclockModel" "eighths" "[I") (List.mem_of_getElem? (i := 1) rfl)) (fun _ h9 => h9) rfl dX2_put_48 ?_
  refine lv_iload_n hx hb dX2_put_51 rfl (lv_at hl 1 rfl) ?_
  refine va_iald hx hb hK hP 0 0 rfl rfl (by assumption) dX2_put_52 ?_
  refine lv_aload_n hx hb dX2_put_53 rfl (lv_at hl 0 rfl) ?_
  refine va_get (D := D) (ci := 4) (v := .ref m2) (C := RX2) (T := TX2) (N := 6) hx hb hts in_X2_put_X2 hown hK hP 2 rfl rfl 2 (by decide) (hts (.fieldLink RX2 13 "NearestclockModel" "below" "[Z") (List.mem_of_getElem? (i := 2) rfl)) (fun _ h9 => h9) rfl dX2_put_54 ?_
  refine lv_iload_n hx hb dX2_put_57 rfl (lv_at hl 1 rfl) ?_
  refine va_zald hx hb hK hP 1 1 rfl rfl (by assumption) dX2_put_58 ?_
  refine vp_callSl (va_Run.run (va_runS (As := [.int (hf i0.toNatClampNeg), .int (bf i0.toNatClampNeg)]) (rest := []) ⟨hx, hb, hml, hown, hts⟩ (c_X2_bitsOf l (hf i0.toNatClampNeg) (bf i0.toNatClampNeg) (gH _ (n_ix gp0))) (va_cwS 2 hts gX2_put_X2_bitsOf rfl rfl rfl (by decide +kernel) ⟨Nat.le_of_ble_eq_true rfl, Nat.le_of_ble_eq_true rfl⟩) ⟨ny_blindT, fun U hU hW => ⟨rfl, trivial⟩⟩ rfl rfl hl.1 rfl (lv_room (Nat.le_of_ble_eq_true rfl)) dX2_put_59 ⟨Nat.le_of_ble_eq_true rfl, Nat.le_of_ble_eq_true rfl⟩)) (fun r_59 hw_59 => ?_)
  have hw_59 : r_59 = f_bt (hf i0.toNatClampNeg) (bf i0.toNatClampNeg) := hw_59
  subst hw_59
  refine lv_lstore_n (lv' := [(3, .long (f_bt (hf i0.toNatClampNeg) (bf i0.toNatClampNeg))), (0, .ref mo), (1, .int i0), (2, .int i1)]) hx hb dX2_put_62 rfl hl (by decide) rfl (fun ls hl => ?_)
  refine lv_aload_n hx hb dX2_put_63 rfl (lv_at hl 1 rfl) ?_
  refine va_get (D := D) (ci := 4) (v := .ref m1) (C := RX2) (T := TX2) (N := 6) hx hb hts in_X2_put_X2 hown hK hP 2 rfl rfl 1 (by decide) (hts (.fieldLink RX2 7 "NearestclockModel" "eighths" "[I") (List.mem_of_getElem? (i := 1) rfl)) (fun _ h9 => h9) rfl dX2_put_64 ?_
  refine lv_iload_n hx hb dX2_put_67 rfl (lv_at hl 2 rfl) ?_
  refine lv_iload_n hx hb dX2_put_68 rfl (lv_at hl 3 rfl) ?_
  refine va_iast hx hb hK hP hD hS 0 0 rfl rfl (by assumption) dX2_put_69 (fun H locs hP hD hS => ?_)
  have hP : va_P D vwCl [(m1, .inl (cI, 12, .inl (upd hf i0.toNatClampNeg i1))), (m2, .inl (cZ, 12, .inl bf)), (mo, .inr (4, [.int 0, .ref m1, .ref m2, .ref m3, .ref m4, .int mn]))] H := hP
  have hD : va_D A [(m1, .inl (cI, 12, .inl (upd hf i0.toNatClampNeg i1))), (m2, .inl (cZ, 12, .inl bf)), (mo, .inr (4, [.int 0, .ref m1, .ref m2, .ref m3, .ref m4, .int mn]))] := hD
  refine lv_aload_n hx hb dX2_put_70 rfl (lv_at hl 1 rfl) ?_
  refine va_get (D := D) (ci := 4) (v := .ref m2) (C := RX2) (T := TX2) (N := 6) hx hb hts in_X2_put_X2 hown hK hP 2 rfl rfl 2 (by decide) (hts (.fieldLink RX2 13 "NearestclockModel" "below" "[Z") (List.mem_of_getElem? (i := 2) rfl)) (fun _ h9 => h9) rfl dX2_put_71 ?_
  refine lv_iload_n hx hb dX2_put_74 rfl (lv_at hl 2 rfl) ?_
  refine lv_iconst (v := 0) hx hb dX2_put_75 (by decide) ?_
  refine va_zast hx hb hK hP hD hS 1 1 rfl rfl (by assumption) dX2_put_76 (fun H locs hP hD hS => ?_)
  have hP : va_P D vwCl [(m1, .inl (cI, 12, .inl (upd hf i0.toNatClampNeg i1))), (m2, .inl (cZ, 12, .inl (upd bf i0.toNatClampNeg 0))), (mo, .inr (4, [.int 0, .ref m1, .ref m2, .ref m3, .ref m4, .int mn]))] H := hP
  have hD : va_D A [(m1, .inl (cI, 12, .inl (upd hf i0.toNatClampNeg i1))), (m2, .inl (cZ, 12, .inl (upd bf i0.toNatClampNeg 0))), (mo, .inr (4, [.int 0, .ref m1, .ref m2, .ref m3, .ref m4, .int mn]))] := hD
  refine lv_lload_n hx hb dX2_put_77 rfl (lv_at hl 0 rfl) ?_
  have hP9 := hP.sub (ws' := [(mo, .inr (4, [.int 0, .ref m1, .ref m2, .ref m3, .ref m4, .int mn])), (m1, .inl (cI, 12, .inl (upd hf i0.toNatClampNeg i1))), (m2, .inl (cZ, 12, .inl (upd bf i0.toNatClampNeg 0)))]) [2, 0, 1] rfl
  have hD9 := hD.sub (ws' := [(mo, .inr (4, [.int 0, .ref m1, .ref m2, .ref m3, .ref m4, .int mn])), (m1, .inl (cI, 12, .inl (upd hf i0.toNatClampNeg i1))), (m2, .inl (cZ, 12, .inl (upd bf i0.toNatClampNeg 0)))]) [2, 0, 1] (by decide) rfl
  exact W.lret (v := f_bt (hf i0.toNatClampNeg) (bf i0.toNatClampNeg)) hx hb hr (fun t ht hW => ⟨⟨f_bt (hf i0.toNatClampNeg) (bf i0.toNatClampNeg), (), rfl, (rfl), by rw [ht]; exact hP9, va_K.moved hW.alike hK, hD9⟩, hS.F ht⟩) hS.2.2 dX2_put_78
set_option maxHeartbeats 4000000 in
set_option maxRecDepth 100000 in
theorem c_X2_put_noP (l : Launch) (D : va_G) (cI : ClassId) (cZ : ClassId) (mo : Nat) (m1 : Nat) (m2 : Nat) (m3 : Nat) (m4 : Nat) (sz : Nat) (th : Int32) (mn : Int32) (hf : Nat → Int32) (bf : Nat → Int32) (i0 : Int32) (i1 : Int32) (gp0 : ¬ vp_in i0 12) : Met l yX2_put wsX2_put ({ frames := 1, cells := 0, slots := 0, locals := 22 }) (va_Pc [.ref mo, .int i0, .int i1] (ny_pre D [(cI, .int), (cZ, .boolean)] [(mo, .inr (4, [.int th, .ref m1, .ref m2, .ref m3, .ref m4, .int mn])), (m1, .inl (cI, 12, .inl hf)), (m2, .inl (cZ, 12, .inl bf))] sz)) (va_Ql (fun (r : Int64) (u : Unit) => r = 0) (fun (u : Unit) t => ny_at D [(cI, .int), (cZ, .boolean)] (va_A [(mo, .inr (4, [.int th, .ref m1, .ref m2, .ref m3, .ref m4, .int mn])), (m1, .inl (cI, 12, .inl hf)), (m2, .inl (cZ, 12, .inl bf))] sz) [(mo, .inr (4, [.int 1, .ref m1, .ref m2, .ref m3, .ref m4, .int mn])), (m1, .inl (cI, 12, .inl hf)), (m2, .inl (cZ, 12, .inl bf))] t) (va_A [(mo, .inr (4, [.int th, .ref m1, .ref m2, .ref m3, .ref m4, .int mn])), (m1, .inl (cI, 12, .inl hf)), (m2, .inl (cZ, 12, .inl bf))] sz)) 0 0 (va_A [(mo, .inr (4, [.int th, .ref m1, .ref m2, .ref m3, .ref m4, .int mn])), (m1, .inl (cI, 12, .inl hf)), (m2, .inl (cZ, 12, .inl bf))] sz) := by
  refine Met.ofW (cc := cX2_put) (maxL := 5) (ret := (some .long)) (by decide) rfl ?_
  intro p e s m args below meth c s₁ B hml hv
  obtain ⟨rfl, hsz, hP, hK, hD0, hE⟩ := hv
  have hx := B.exec
  have hb := B.bytes
  have hr := B.returns
  have hts := atoms_spec (ws := wsX2_put) B.pre
  have hown : s.vm.findClass RX2 = some m.cls := findClass_of_methodNamed B.named
  have hlocks := B.notSynchronized
  subst hsz
  have hD := hD0.self (sz := s.heap.size)
  generalize hAe : va_A [(mo, .inr (4, [.int th, .ref m1, .ref m2, .ref m3, .ref m4, .int mn])), (m1, .inl (cI, 12, .inl hf)), (m2, .inl (cZ, 12, .inl bf))] s.heap.size = A at hD hE ⊢
  have hA : ∀ q : Nat, s.heap.size ≤ q → A q := fun q h => by rw [← hAe]; exact Or.inr h
  have hS : va_S A s.heap s.heap [] := va_S.rf
  have hl := lv_entry ([.ref mo, .int i0, .int i1]) (n := 5) (Nat.le_of_ble_eq_true rfl)
  rw [lg_entry_eq]
  generalize (lg_sl ([.ref mo, .int i0, .int i1]) ++ List.replicate (5 - (lg_sl ([.ref mo, .int i0, .int i1])).length) Slot.unset).toArray = ls at hl ⊢
  have hl : lv_has ls 5 [(0, .ref mo), (1, .int i0), (2, .int i1)] := hl
  refine lv_aload_n hx hb dX2_put_0 rfl (lv_at hl 0 rfl) ?_
  refine lv_iload_n hx hb dX2_put_1 rfl (lv_at hl 1 rfl) ?_
  refine vp_callSi (va_Run.run (va_runS (As := [.int i0]) (rest := [.ref mo]) ⟨hx, hb, hml, hown, hts⟩ (c_X2_isPlace_no l i0 (by assumption)) (va_cwS 1 hts gX2_put_X2_isPlace rfl rfl rfl (by decide +kernel) ⟨Nat.le_of_ble_eq_true rfl, Nat.le_of_ble_eq_true rfl⟩) ⟨ny_blindT, fun U hU hW => ⟨rfl, trivial⟩⟩ rfl rfl hl.1 rfl (lv_room (Nat.le_of_ble_eq_true rfl)) dX2_put_2 ⟨Nat.le_of_ble_eq_true rfl, Nat.le_of_ble_eq_true rfl⟩)) (fun r_2 hw_2 => ?_)
  have hw_2 : r_2 = 0 := hw_2
  subst hw_2
  refine lv_if_ne (tgt := 12) hx hb dX2_put_5 (by decide) (fun c_5 => absurd (show (0 : Int32) = 0 by  decide) c_5) (fun c_5 => ?_)
  refine lv_iconst (v := 1) hx hb dX2_put_8 (by decide) ?_
  refine lv_goto (tgt := 13) hx hb dX2_put_9 (by decide) ?_
  refine lv_iconst (v := 1) hx hb dX2_put_13 (by decide) ?_
  refine ny_i (wc := [(mo, .inr (4, [.int th, .ref m1, .ref m2, .ref m3, .ref m4, .int mn]))]) (wr := [(m1, .inl (cI, 12, .inl hf)), (m2, .inl (cZ, 12, .inl bf))]) hP hD hS hA [0] [1, 2] rfl rfl (by decide) (by decide) (va_runV (As := [.int 1, .int 1]) (rest := []) ⟨hx, hb, hml, hown, hts⟩ (c_X2_isThrown_1 l D mo m1 m2 m3 m4 s.heap.size th mn 1) (cwV 2 hts gX2_put_X2_isThrown rfl rfl rfl (by decide +kernel) ⟨Nat.le_of_ble_eq_true rfl, Nat.le_of_ble_eq_true rfl⟩) ⟨ny_blind, va_recv hK hP (ci := 4) (q0 := 0) rfl rfl, fun U hU hW => ⟨rfl, ny_preU hE hP hK hD hS hA [0] rfl (by decide) rfl [] rfl U hU hW⟩⟩ rfl rfl hl.1 rfl (lv_room (Nat.le_of_ble_eq_true rfl)) dX2_put_14 ⟨Nat.le_of_ble_eq_true rfl, Nat.le_of_ble_eq_true rfl⟩) (fun r_14 u H locs hw_14 hP hD hS => ?_)
  have hP : va_P D vwCl [(m1, .inl (cI, 12, .inl hf)), (m2, .inl (cZ, 12, .inl bf)), (mo, .inr (4, [.int 1, .ref m1, .ref m2, .ref m3, .ref m4, .int mn]))] H := hP
  have hD : va_D A [(m1, .inl (cI, 12, .inl hf)), (m2, .inl (cZ, 12, .inl bf)), (mo, .inr (4, [.int 1, .ref m1, .ref m2, .ref m3, .ref m4, .int mn]))] := hD
  have hw_14 : r_14 = 1 := hw_14
  subst hw_14
  refine lv_if_ne (tgt := 45) hx hb dX2_put_17 (by decide) (fun c_17 => ?_) (fun c_17 => absurd c_17 (show ¬ ((1 : Int32) = 0) by  decide))
  refine lv_lconst (v := 0) hx hb dX2_put_45 (by decide) ?_
  have hP9 := hP.sub (ws' := [(mo, .inr (4, [.int 1, .ref m1, .ref m2, .ref m3, .ref m4, .int mn])), (m1, .inl (cI, 12, .inl hf)), (m2, .inl (cZ, 12, .inl bf))]) [2, 0, 1] rfl
  have hD9 := hD.sub (ws' := [(mo, .inr (4, [.int 1, .ref m1, .ref m2, .ref m3, .ref m4, .int mn])), (m1, .inl (cI, 12, .inl hf)), (m2, .inl (cZ, 12, .inl bf))]) [2, 0, 1] (by decide) rfl
  exact W.lret (v := 0) hx hb hr (fun t ht hW => ⟨⟨0, (), rfl, (rfl), by rw [ht]; exact hP9, va_K.moved hW.alike hK, hD9⟩, hS.F ht⟩) hS.2.2 dX2_put_46
set_option maxHeartbeats 4000000 in
set_option maxRecDepth 100000 in
theorem c_X2_put_noA (l : Launch) (D : va_G) (cI : ClassId) (cZ : ClassId) (mo : Nat) (m1 : Nat) (m2 : Nat) (m3 : Nat) (m4 : Nat) (sz : Nat) (th : Int32) (mn : Int32) (hf : Nat → Int32) (bf : Nat → Int32) (i0 : Int32) (i1 : Int32) (gp0 : vp_in i0 12) (ge : ¬ ny_R i1) : Met l yX2_put wsX2_put ({ frames := 1, cells := 0, slots := 0, locals := 22 }) (va_Pc [.ref mo, .int i0, .int i1] (ny_pre D [(cI, .int), (cZ, .boolean)] [(mo, .inr (4, [.int th, .ref m1, .ref m2, .ref m3, .ref m4, .int mn])), (m1, .inl (cI, 12, .inl hf)), (m2, .inl (cZ, 12, .inl bf))] sz)) (va_Ql (fun (r : Int64) (u : Unit) => r = 0) (fun (u : Unit) t => ny_at D [(cI, .int), (cZ, .boolean)] (va_A [(mo, .inr (4, [.int th, .ref m1, .ref m2, .ref m3, .ref m4, .int mn])), (m1, .inl (cI, 12, .inl hf)), (m2, .inl (cZ, 12, .inl bf))] sz) [(mo, .inr (4, [.int 2, .ref m1, .ref m2, .ref m3, .ref m4, .int mn])), (m1, .inl (cI, 12, .inl hf)), (m2, .inl (cZ, 12, .inl bf))] t) (va_A [(mo, .inr (4, [.int th, .ref m1, .ref m2, .ref m3, .ref m4, .int mn])), (m1, .inl (cI, 12, .inl hf)), (m2, .inl (cZ, 12, .inl bf))] sz)) 0 0 (va_A [(mo, .inr (4, [.int th, .ref m1, .ref m2, .ref m3, .ref m4, .int mn])), (m1, .inl (cI, 12, .inl hf)), (m2, .inl (cZ, 12, .inl bf))] sz) := by
  refine Met.ofW (cc := cX2_put) (maxL := 5) (ret := (some .long)) (by decide) rfl ?_
  intro p e s m args below meth c s₁ B hml hv
  obtain ⟨rfl, hsz, hP, hK, hD0, hE⟩ := hv
  have hx := B.exec
  have hb := B.bytes
  have hr := B.returns
  have hts := atoms_spec (ws := wsX2_put) B.pre
  have hown : s.vm.findClass RX2 = some m.cls := findClass_of_methodNamed B.named
  have hlocks := B.notSynchronized
  subst hsz
  have hD := hD0.self (sz := s.heap.size)
  generalize hAe : va_A [(mo, .inr (4, [.int th, .ref m1, .ref m2, .ref m3, .ref m4, .int mn])), (m1, .inl (cI, 12, .inl hf)), (m2, .inl (cZ, 12, .inl bf))] s.heap.size = A at hD hE ⊢
  have hA : ∀ q : Nat, s.heap.size ≤ q → A q := fun q h => by rw [← hAe]; exact Or.inr h
  have hS : va_S A s.heap s.heap [] := va_S.rf
  have hl := lv_entry ([.ref mo, .int i0, .int i1]) (n := 5) (Nat.le_of_ble_eq_true rfl)
  rw [lg_entry_eq]
  generalize (lg_sl ([.ref mo, .int i0, .int i1]) ++ List.replicate (5 - (lg_sl ([.ref mo, .int i0, .int i1])).length) Slot.unset).toArray = ls at hl ⊢
  have hl : lv_has ls 5 [(0, .ref mo), (1, .int i0), (2, .int i1)] := hl
  refine lv_aload_n hx hb dX2_put_0 rfl (lv_at hl 0 rfl) ?_
  refine lv_iload_n hx hb dX2_put_1 rfl (lv_at hl 1 rfl) ?_
  refine vp_callSi (va_Run.run (va_runS (As := [.int i0]) (rest := [.ref mo]) ⟨hx, hb, hml, hown, hts⟩ (c_X2_isPlace l i0 (by assumption)) (va_cwS 1 hts gX2_put_X2_isPlace rfl rfl rfl (by decide +kernel) ⟨Nat.le_of_ble_eq_true rfl, Nat.le_of_ble_eq_true rfl⟩) ⟨ny_blindT, fun U hU hW => ⟨rfl, trivial⟩⟩ rfl rfl hl.1 rfl (lv_room (Nat.le_of_ble_eq_true rfl)) dX2_put_2 ⟨Nat.le_of_ble_eq_true rfl, Nat.le_of_ble_eq_true rfl⟩)) (fun r_2 hw_2 => ?_)
  have hw_2 : r_2 = 1 := hw_2
  subst hw_2
  refine lv_if_ne (tgt := 12) hx hb dX2_put_5 (by decide) (fun c_5 => ?_) (fun c_5 => absurd c_5 (show ¬ ((1 : Int32) = 0) by  decide))
  refine lv_iconst (v := 0) hx hb dX2_put_12 (by decide) ?_
  refine lv_iconst (v := 1) hx hb dX2_put_13 (by decide) ?_
  refine ny_i (wc := [(mo, .inr (4, [.int th, .ref m1, .ref m2, .ref m3, .ref m4, .int mn]))]) (wr := [(m1, .inl (cI, 12, .inl hf)), (m2, .inl (cZ, 12, .inl bf))]) hP hD hS hA [0] [1, 2] rfl rfl (by decide) (by decide) (va_runV (As := [.int 0, .int 1]) (rest := []) ⟨hx, hb, hml, hown, hts⟩ (c_X2_isThrown_0 l D mo m1 m2 m3 m4 s.heap.size th mn 1) (cwV 2 hts gX2_put_X2_isThrown rfl rfl rfl (by decide +kernel) ⟨Nat.le_of_ble_eq_true rfl, Nat.le_of_ble_eq_true rfl⟩) ⟨ny_blind, va_recv hK hP (ci := 4) (q0 := 0) rfl rfl, fun U hU hW => ⟨rfl, ny_preU hE hP hK hD hS hA [0] rfl (by decide) rfl [] rfl U hU hW⟩⟩ rfl rfl hl.1 rfl (lv_room (Nat.le_of_ble_eq_true rfl)) dX2_put_14 ⟨Nat.le_of_ble_eq_true rfl, Nat.le_of_ble_eq_true rfl⟩) (fun r_14 u H locs hw_14 hP hD hS => ?_)
  have hP : va_P D vwCl [(m1, .inl (cI, 12, .inl hf)), (m2, .inl (cZ, 12, .inl bf)), (mo, .inr (4, [.int 0, .ref m1, .ref m2, .ref m3, .ref m4, .int mn]))] H := hP
  have hD : va_D A [(m1, .inl (cI, 12, .inl hf)), (m2, .inl (cZ, 12, .inl bf)), (mo, .inr (4, [.int 0, .ref m1, .ref m2, .ref m3, .ref m4, .int mn]))] := hD
  have hw_14 : r_14 = 0 := hw_14
  subst hw_14
  refine lv_if_ne (tgt := 45) hx hb dX2_put_17 (by decide) (fun c_17 => absurd (show (0 : Int32) = 0 by  decide) c_17) (fun c_17 => ?_)
  refine lv_aload_n hx hb dX2_put_20 rfl (lv_at hl 0 rfl) ?_
  refine lv_iload_n hx hb dX2_put_21 rfl (lv_at hl 2 rfl) ?_
  refine lv_bipush (v := -127) hx hb dX2_put_22 (by decide) ?_
  refine lv_icmp_lt (tgt := 33) hx hb dX2_put_24 (by decide) (fun c_24 => ?_) (fun c_24 => ?_)
  · refine lv_iconst (v := 1) hx hb dX2_put_33 (by decide) ?_
    refine lv_goto (tgt := 38) hx hb dX2_put_34 (by decide) ?_
    refine lv_iconst (v := 2) hx hb dX2_put_38 (by decide) ?_
    refine ny_i (wc := [(mo, .inr (4, [.int 0, .ref m1, .ref m2, .ref m3, .ref m4, .int mn]))]) (wr := [(m1, .inl (cI, 12, .inl hf)), (m2, .inl (cZ, 12, .inl bf))]) hP hD hS hA [2] [0, 1] rfl rfl (by decide) (by decide) (va_runV (As := [.int 1, .int 2]) (rest := []) ⟨hx, hb, hml, hown, hts⟩ (c_X2_isThrown_1 l D mo m1 m2 m3 m4 H.size 0 mn 2) (cwV 2 hts gX2_put_X2_isThrown rfl rfl rfl (by decide +kernel) ⟨Nat.le_of_ble_eq_true rfl, Nat.le_of_ble_eq_true rfl⟩) ⟨ny_blind, va_recv hK hP (ci := 4) (q0 := 2) rfl rfl, fun U hU hW => ⟨rfl, ny_preU hE hP hK hD hS hA [2] rfl (by decide) rfl [] rfl U hU hW⟩⟩ rfl rfl hl.1 rfl (lv_room (Nat.le_of_ble_eq_true rfl)) dX2_put_39 ⟨Nat.le_of_ble_eq_true rfl, Nat.le_of_ble_eq_true rfl⟩) (fun r_39 u H locs hw_39 hP hD hS => ?_)
    have hP : va_P D vwCl [(m1, .inl (cI, 12, .inl hf)), (m2, .inl (cZ, 12, .inl bf)), (mo, .inr (4, [.int 2, .ref m1, .ref m2, .ref m3, .ref m4, .int mn]))] H := hP
    have hD : va_D A [(m1, .inl (cI, 12, .inl hf)), (m2, .inl (cZ, 12, .inl bf)), (mo, .inr (4, [.int 2, .ref m1, .ref m2, .ref m3, .ref m4, .int mn]))] := hD
    have hw_39 : r_39 = 1 := hw_39
    subst hw_39
    refine lv_if_eq (tgt := 47) hx hb dX2_put_42 (by decide) (fun c_42 => absurd c_42 (show ¬ ((1 : Int32) = 0) by  decide)) (fun c_42 => ?_)
    refine lv_lconst (v := 0) hx hb dX2_put_45 (by decide) ?_
    have hP9 := hP.sub (ws' := [(mo, .inr (4, [.int 2, .ref m1, .ref m2, .ref m3, .ref m4, .int mn])), (m1, .inl (cI, 12, .inl hf)), (m2, .inl (cZ, 12, .inl bf))]) [2, 0, 1] rfl
    have hD9 := hD.sub (ws' := [(mo, .inr (4, [.int 2, .ref m1, .ref m2, .ref m3, .ref m4, .int mn])), (m1, .inl (cI, 12, .inl hf)), (m2, .inl (cZ, 12, .inl bf))]) [2, 0, 1] (by decide) rfl
    exact W.lret (v := 0) hx hb hr (fun t ht hW => ⟨⟨0, (), rfl, (rfl), by rw [ht]; exact hP9, va_K.moved hW.alike hK, hD9⟩, hS.F ht⟩) hS.2.2 dX2_put_46
  · refine lv_iload_n hx hb dX2_put_27 rfl (lv_at hl 2 rfl) ?_
    refine lv_bipush (v := 127) hx hb dX2_put_28 (by decide) ?_
    refine lv_icmp_le (tgt := 37) hx hb dX2_put_30 (by decide) (fun c_30 => absurd c_30 (show ¬ ((i1 : Int32) ≤ 127) by  have z : (-127 : Int32).toInt = -127 := rfl; have z2 : (127 : Int32).toInt = 127 := rfl; intro q; rw [fa_le] at q; rw [fa_lt] at c_24; exact ge ⟨by omega, by omega⟩)) (fun c_30 => ?_)
    refine lv_iconst (v := 1) hx hb dX2_put_33 (by decide) ?_
    refine lv_goto (tgt := 38) hx hb dX2_put_34 (by decide) ?_
    refine lv_iconst (v := 2) hx hb dX2_put_38 (by decide) ?_
    refine ny_i (wc := [(mo, .inr (4, [.int 0, .ref m1, .ref m2, .ref m3, .ref m4, .int mn]))]) (wr := [(m1, .inl (cI, 12, .inl hf)), (m2, .inl (cZ, 12, .inl bf))]) hP hD hS hA [2] [0, 1] rfl rfl (by decide) (by decide) (va_runV (As := [.int 1, .int 2]) (rest := []) ⟨hx, hb, hml, hown, hts⟩ (c_X2_isThrown_1 l D mo m1 m2 m3 m4 H.size 0 mn 2) (cwV 2 hts gX2_put_X2_isThrown rfl rfl rfl (by decide +kernel) ⟨Nat.le_of_ble_eq_true rfl, Nat.le_of_ble_eq_true rfl⟩) ⟨ny_blind, va_recv hK hP (ci := 4) (q0 := 2) rfl rfl, fun U hU hW => ⟨rfl, ny_preU hE hP hK hD hS hA [2] rfl (by decide) rfl [] rfl U hU hW⟩⟩ rfl rfl hl.1 rfl (lv_room (Nat.le_of_ble_eq_true rfl)) dX2_put_39 ⟨Nat.le_of_ble_eq_true rfl, Nat.le_of_ble_eq_true rfl⟩) (fun r_39 u H locs hw_39 hP hD hS => ?_)
    have hP : va_P D vwCl [(m1, .inl (cI, 12, .inl hf)), (m2, .inl (cZ, 12, .inl bf)), (mo, .inr (4, [.int 2, .ref m1, .ref m2, .ref m3, .ref m4, .int mn]))] H := hP
    have hD : va_D A [(m1, .inl (cI, 12, .inl hf)), (m2, .inl (cZ, 12, .inl bf)), (mo, .inr (4, [.int 2, .ref m1, .ref m2, .ref m3, .ref m4, .int mn]))] := hD
    have hw_39 : r_39 = 1 := hw_39
    subst hw_39
    refine lv_if_eq (tgt := 47) hx hb dX2_put_42 (by decide) (fun c_42 => absurd c_42 (show ¬ ((1 : Int32) = 0) by  decide)) (fun c_42 => ?_)
    refine lv_lconst (v := 0) hx hb dX2_put_45 (by decide) ?_
    have hP9 := hP.sub (ws' := [(mo, .inr (4, [.int 2, .ref m1, .ref m2, .ref m3, .ref m4, .int mn])), (m1, .inl (cI, 12, .inl hf)), (m2, .inl (cZ, 12, .inl bf))]) [2, 0, 1] rfl
    have hD9 := hD.sub (ws' := [(mo, .inr (4, [.int 2, .ref m1, .ref m2, .ref m3, .ref m4, .int mn])), (m1, .inl (cI, 12, .inl hf)), (m2, .inl (cZ, 12, .inl bf))]) [2, 0, 1] (by decide) rfl
    exact W.lret (v := 0) hx hb hr (fun t ht hW => ⟨⟨0, (), rfl, (rfl), by rw [ht]; exact hP9, va_K.moved hW.alike hK, hD9⟩, hS.F ht⟩) hS.2.2 dX2_put_46
theorem in_X2_putBelow_X2 : ∀ w ∈ wsX20, w ∈ wsX2_putBelow := (fun _ h => List.mem_cons_of_mem _ (List.mem_append_left _ (List.mem_append_right _ h)))
set_option maxHeartbeats 4000000 in
set_option maxRecDepth 100000 in
theorem c_X2_putBelow (l : Launch) (D : va_G) (cI : ClassId) (cZ : ClassId) (mo : Nat) (m1 : Nat) (m2 : Nat) (m3 : Nat) (m4 : Nat) (sz : Nat) (th : Int32) (mn : Int32) (hf : Nat → Int32) (bf : Nat → Int32) (i0 : Int32) (gp0 : vp_in i0 12) (gH : ny_H hf) : Met l yX2_putBelow wsX2_putBelow ({ frames := 2, cells := 0, slots := 0, locals := 47 }) (va_Pc [.ref mo, .int i0] (ny_pre D [(cI, .int), (cZ, .boolean)] [(mo, .inr (4, [.int th, .ref m1, .ref m2, .ref m3, .ref m4, .int mn])), (m1, .inl (cI, 12, .inl hf)), (m2, .inl (cZ, 12, .inl bf))] sz)) (va_Ql (fun (r : Int64) (u : Unit) => r = f_bt (hf i0.toNatClampNeg) (bf i0.toNatClampNeg)) (fun (u : Unit) t => ny_at D [(cI, .int), (cZ, .boolean)] (va_A [(mo, .inr (4, [.int th, .ref m1, .ref m2, .ref m3, .ref m4, .int mn])), (m1, .inl (cI, 12, .inl hf)), (m2, .inl (cZ, 12, .inl bf))] sz) [(mo, .inr (4, [.int 0, .ref m1, .ref m2, .ref m3, .ref m4, .int mn])), (m1, .inl (cI, 12, .inl (upd hf i0.toNatClampNeg 0))), (m2, .inl (cZ, 12, .inl (upd bf i0.toNatClampNeg 1)))] t) (va_A [(mo, .inr (4, [.int th, .ref m1, .ref m2, .ref m3, .ref m4, .int mn])), (m1, .inl (cI, 12, .inl hf)), (m2, .inl (cZ, 12, .inl bf))] sz)) 0 0 (va_A [(mo, .inr (4, [.int th, .ref m1, .ref m2, .ref m3, .ref m4, .int mn])), (m1, .inl (cI, 12, .inl hf)), (m2, .inl (cZ, 12, .inl bf))] sz) := by
  refine Met.ofW (cc := cX2_putBelow) (maxL := 4) (ret := (some .long)) (by decide) rfl ?_
  intro p e s m args below meth c s₁ B hml hv
  obtain ⟨rfl, hsz, hP, hK, hD0, hE⟩ := hv
  have hx := B.exec
  have hb := B.bytes
  have hr := B.returns
  have hts := atoms_spec (ws := wsX2_putBelow) B.pre
  have hown : s.vm.findClass RX2 = some m.cls := findClass_of_methodNamed B.named
  have hlocks := B.notSynchronized
  subst hsz
  have hD := hD0.self (sz := s.heap.size)
  generalize hAe : va_A [(mo, .inr (4, [.int th, .ref m1, .ref m2, .ref m3, .ref m4, .int mn])), (m1, .inl (cI, 12, .inl hf)), (m2, .inl (cZ, 12, .inl bf))] s.heap.size = A at hD hE ⊢
  have hA : ∀ q : Nat, s.heap.size ≤ q → A q := fun q h => by rw [← hAe]; exact Or.inr h
  have hS : va_S A s.heap s.heap [] := va_S.rf
  have hl := lv_entry ([.ref mo, .int i0]) (n := 4) (Nat.le_of_ble_eq_true rfl)
  rw [lg_entry_eq]
  generalize (lg_sl ([.ref mo, .int i0]) ++ List.replicate (4 - (lg_sl ([.ref mo, .int i0])).length) Slot.unset).toArray = ls at hl ⊢
  have hl : lv_has ls 4 [(0, .ref mo), (1, .int i0)] := hl
  refine lv_aload_n hx hb dX2_putBelow_0 rfl (lv_at hl 0 rfl) ?_
  refine lv_iload_n hx hb dX2_putBelow_1 rfl (lv_at hl 1 rfl) ?_
  refine vp_callSi (va_Run.run (va_runS (As := [.int i0]) (rest := [.ref mo]) ⟨hx, hb, hml, hown, hts⟩ (c_X2_isPlace l i0 (by assumption)) (va_cwS 1 hts gX2_putBelow_X2_isPlace rfl rfl rfl (by decide +kernel) ⟨Nat.le_of_ble_eq_true rfl, Nat.le_of_ble_eq_true rfl⟩) ⟨ny_blindT, fun U hU hW => ⟨rfl, trivial⟩⟩ rfl rfl hl.1 rfl (lv_room (Nat.le_of_ble_eq_true rfl)) dX2_putBelow_2 ⟨Nat.le_of_ble_eq_true rfl, Nat.le_of_ble_eq_true rfl⟩)) (fun r_2 hw_2 => ?_)
  have hw_2 : r_2 = 1 := hw_2
  subst hw_2
  refine lv_if_ne (tgt := 12) hx hb dX2_putBelow_5 (by decide) (fun c_5 => ?_) (fun c_5 => absurd c_5 (show ¬ ((1 : Int32) = 0) by  decide))
  refine lv_iconst (v := 0) hx hb dX2_putBelow_12 (by decide) ?_
  refine lv_iconst (v := 1) hx hb dX2_putBelow_13 (by decide) ?_
  refine ny_i (wc := [(mo, .inr (4, [.int th, .ref m1, .ref m2, .ref m3, .ref m4, .int mn]))]) (wr := [(m1, .inl (cI, 12, .inl hf)), (m2, .inl (cZ, 12, .inl bf))]) hP hD hS hA [0] [1, 2] rfl rfl (by decide) (by decide) (va_runV (As := [.int 0, .int 1]) (rest := []) ⟨hx, hb, hml, hown, hts⟩ (c_X2_isThrown_0 l D mo m1 m2 m3 m4 s.heap.size th mn 1) (cwV 2 hts gX2_putBelow_X2_isThrown rfl rfl rfl (by decide +kernel) ⟨Nat.le_of_ble_eq_true rfl, Nat.le_of_ble_eq_true rfl⟩) ⟨ny_blind, va_recv hK hP (ci := 4) (q0 := 0) rfl rfl, fun U hU hW => ⟨rfl, ny_preU hE hP hK hD hS hA [0] rfl (by decide) rfl [] rfl U hU hW⟩⟩ rfl rfl hl.1 rfl (lv_room (Nat.le_of_ble_eq_true rfl)) dX2_putBelow_14 ⟨Nat.le_of_ble_eq_true rfl, Nat.le_of_ble_eq_true rfl⟩) (fun r_14 u H locs hw_14 hP hD hS => ?_)
  have hP : va_P D vwCl [(m1, .inl (cI, 12, .inl hf)), (m2, .inl (cZ, 12, .inl bf)), (mo, .inr (4, [.int 0, .ref m1, .ref m2, .ref m3, .ref m4, .int mn]))] H := hP
  have hD : va_D A [(m1, .inl (cI, 12, .inl hf)), (m2, .inl (cZ, 12, .inl bf)), (mo, .inr (4, [.int 0, .ref m1, .ref m2, .ref m3, .ref m4, .int mn]))] := hD
  have hw_14 : r_14 = 0 := hw_14
  subst hw_14
  refine lv_if_eq (tgt := 22) hx hb dX2_putBelow_17 (by decide) (fun c_17 => ?_) (fun c_17 => absurd (show (0 : Int32) = 0 by  decide) c_17)
  refine lv_aload_n hx hb dX2_putBelow_22 rfl (lv_at hl 0 rfl) ?_
  refine va_get (D := D) (ci := 4) (v := .ref m1) (C := RX2) (T := TX2) (N := 6) hx hb hts in_X2_putBelow_X2 hown hK hP 2 rfl rfl 1 (by decide) (hts (.fieldLink RX2 7 "NearestclockModel" "eighths" "[I") (List.mem_of_getElem? (i := 1) rfl)) (fun _ h9 => h9) rfl dX2_putBelow_23 ?_
  refine lv_iload_n hx hb dX2_putBelow_26 rfl (lv_at hl 1 rfl) ?_
  refine va_iald hx hb hK hP 0 0 rfl rfl (by assumption) dX2_putBelow_27 ?_
  refine lv_aload_n hx hb dX2_putBelow_28 rfl (lv_at hl 0 rfl) ?_
  refine va_get (D := D) (ci := 4) (v := .ref m2) (C := RX2) (T := TX2) (N := 6) hx hb hts in_X2_putBelow_X2 hown hK hP 2 rfl rfl 2 (by decide) (hts (.fieldLink RX2 13 "NearestclockModel" "below" "[Z") (List.mem_of_getElem? (i := 2) rfl)) (fun _ h9 => h9) rfl dX2_putBelow_29 ?_
  refine lv_iload_n hx hb dX2_putBelow_32 rfl (lv_at hl 1 rfl) ?_
  refine va_zald hx hb hK hP 1 1 rfl rfl (by assumption) dX2_putBelow_33 ?_
  refine vp_callSl (va_Run.run (va_runS (As := [.int (hf i0.toNatClampNeg), .int (bf i0.toNatClampNeg)]) (rest := []) ⟨hx, hb, hml, hown, hts⟩ (c_X2_bitsOf l (hf i0.toNatClampNeg) (bf i0.toNatClampNeg) (gH _ (n_ix gp0))) (va_cwS 2 hts gX2_putBelow_X2_bitsOf rfl rfl rfl (by decide +kernel) ⟨Nat.le_of_ble_eq_true rfl, Nat.le_of_ble_eq_true rfl⟩) ⟨ny_blindT, fun U hU hW => ⟨rfl, trivial⟩⟩ rfl rfl hl.1 rfl (lv_room (Nat.le_of_ble_eq_true rfl)) dX2_putBelow_34 ⟨Nat.le_of_ble_eq_true rfl, Nat.le_of_ble_eq_true rfl⟩)) (fun r_34 hw_34 => ?_)
  have hw_34 : r_34 = f_bt (hf i0.toNatClampNeg) (bf i0.toNatClampNeg) := hw_34
  subst hw_34
  refine lv_lstore_n (lv' := [(2, .long (f_bt (hf i0.toNatClampNeg) (bf i0.toNatClampNeg))), (0, .ref mo), (1, .int i0)]) hx hb dX2_putBelow_37 rfl hl (by decide) rfl (fun ls hl => ?_)
  refine lv_aload_n hx hb dX2_putBelow_38 rfl (lv_at hl 1 rfl) ?_
  refine va_get (D := D) (ci := 4) (v := .ref m1) (C := RX2) (T := TX2) (N := 6) hx hb hts in_X2_putBelow_X2 hown hK hP 2 rfl rfl 1 (by decide) (hts (.fieldLink RX2 7 "NearestclockModel" "eighths" "[I") (List.mem_of_getElem? (i := 1) rfl)) (fun _ h9 => h9) rfl dX2_putBelow_39 ?_
  refine lv_iload_n hx hb dX2_putBelow_42 rfl (lv_at hl 2 rfl) ?_
  refine lv_iconst (v := 0) hx hb dX2_putBelow_43 (by decide) ?_
  refine va_iast hx hb hK hP hD hS 0 0 rfl rfl (by assumption) dX2_putBelow_44 (fun H locs hP hD hS => ?_)
  have hP : va_P D vwCl [(m1, .inl (cI, 12, .inl (upd hf i0.toNatClampNeg 0))), (m2, .inl (cZ, 12, .inl bf)), (mo, .inr (4, [.int 0, .ref m1, .ref m2, .ref m3, .ref m4, .int mn]))] H := hP
  have hD : va_D A [(m1, .inl (cI, 12, .inl (upd hf i0.toNatClampNeg 0))), (m2, .inl (cZ, 12, .inl bf)), (mo, .inr (4, [.int 0, .ref m1, .ref m2, .ref m3, .ref m4, .int mn]))] := hD
  refine lv_aload_n hx hb dX2_putBelow_45 rfl (lv_at hl 1 rfl) ?_
  refine va_get (D := D) (ci := 4) (v := .ref m2) (C := RX2) (T := TX2) (N := 6) hx hb hts in_X2_putBelow_X2 hown hK hP 2 rfl rfl 2 (by decide) (hts (.fieldLink RX2 13 "NearestclockModel" "below" "[Z") (List.mem_of_getElem? (i := 2) rfl)) (fun _ h9 => h9) rfl dX2_putBelow_46 ?_
  refine lv_iload_n hx hb dX2_putBelow_49 rfl (lv_at hl 2 rfl) ?_
  refine lv_iconst (v := 1) hx hb dX2_putBelow_50 (by decide) ?_
  refine va_zast hx hb hK hP hD hS 1 1 rfl rfl (by assumption) dX2_putBelow_51 (fun H locs hP hD hS => ?_)
  have hP : va_P D vwCl [(m1, .inl (cI, 12, .inl (upd hf i0.toNatClampNeg 0))), (m2, .inl (cZ, 12, .inl (upd bf i0.toNatClampNeg 1))), (mo, .inr (4, [.int 0, .ref m1, .ref m2, .ref m3, .ref m4, .int mn]))] H := hP
  have hD : va_D A [(m1, .inl (cI, 12, .inl (upd hf i0.toNatClampNeg 0))), (m2, .inl (cZ, 12, .inl (upd bf i0.toNatClampNeg 1))), (mo, .inr (4, [.int 0, .ref m1, .ref m2, .ref m3, .ref m4, .int mn]))] := hD
  refine lv_lload_n hx hb dX2_putBelow_52 rfl (lv_at hl 0 rfl) ?_
  have hP9 := hP.sub (ws' := [(mo, .inr (4, [.int 0, .ref m1, .ref m2, .ref m3, .ref m4, .int mn])), (m1, .inl (cI, 12, .inl (upd hf i0.toNatClampNeg 0))), (m2, .inl (cZ, 12, .inl (upd bf i0.toNatClampNeg 1)))]) [2, 0, 1] rfl
  have hD9 := hD.sub (ws' := [(mo, .inr (4, [.int 0, .ref m1, .ref m2, .ref m3, .ref m4, .int mn])), (m1, .inl (cI, 12, .inl (upd hf i0.toNatClampNeg 0))), (m2, .inl (cZ, 12, .inl (upd bf i0.toNatClampNeg 1)))]) [2, 0, 1] (by decide) rfl
  exact W.lret (v := f_bt (hf i0.toNatClampNeg) (bf i0.toNatClampNeg)) hx hb hr (fun t ht hW => ⟨⟨f_bt (hf i0.toNatClampNeg) (bf i0.toNatClampNeg), (), rfl, (rfl), by rw [ht]; exact hP9, va_K.moved hW.alike hK, hD9⟩, hS.F ht⟩) hS.2.2 dX2_putBelow_53
set_option maxHeartbeats 4000000 in
set_option maxRecDepth 100000 in
theorem c_X2_putBelow_noP (l : Launch) (D : va_G) (cI : ClassId) (cZ : ClassId) (mo : Nat) (m1 : Nat) (m2 : Nat) (m3 : Nat) (m4 : Nat) (sz : Nat) (th : Int32) (mn : Int32) (hf : Nat → Int32) (bf : Nat → Int32) (i0 : Int32) (gp0 : ¬ vp_in i0 12) : Met l yX2_putBelow wsX2_putBelow ({ frames := 1, cells := 0, slots := 0, locals := 22 }) (va_Pc [.ref mo, .int i0] (ny_pre D [(cI, .int), (cZ, .boolean)] [(mo, .inr (4, [.int th, .ref m1, .ref m2, .ref m3, .ref m4, .int mn])), (m1, .inl (cI, 12, .inl hf)), (m2, .inl (cZ, 12, .inl bf))] sz)) (va_Ql (fun (r : Int64) (u : Unit) => r = 0) (fun (u : Unit) t => ny_at D [(cI, .int), (cZ, .boolean)] (va_A [(mo, .inr (4, [.int th, .ref m1, .ref m2, .ref m3, .ref m4, .int mn])), (m1, .inl (cI, 12, .inl hf)), (m2, .inl (cZ, 12, .inl bf))] sz) [(mo, .inr (4, [.int 1, .ref m1, .ref m2, .ref m3, .ref m4, .int mn])), (m1, .inl (cI, 12, .inl hf)), (m2, .inl (cZ, 12, .inl bf))] t) (va_A [(mo, .inr (4, [.int th, .ref m1, .ref m2, .ref m3, .ref m4, .int mn])), (m1, .inl (cI, 12, .inl hf)), (m2, .inl (cZ, 12, .inl bf))] sz)) 0 0 (va_A [(mo, .inr (4, [.int th, .ref m1, .ref m2, .ref m3, .ref m4, .int mn])), (m1, .inl (cI, 12, .inl hf)), (m2, .inl (cZ, 12, .inl bf))] sz) := by
  refine Met.ofW (cc := cX2_putBelow) (maxL := 4) (ret := (some .long)) (by decide) rfl ?_
  intro p e s m args below meth c s₁ B hml hv
  obtain ⟨rfl, hsz, hP, hK, hD0, hE⟩ := hv
  have hx := B.exec
  have hb := B.bytes
  have hr := B.returns
  have hts := atoms_spec (ws := wsX2_putBelow) B.pre
  have hown : s.vm.findClass RX2 = some m.cls := findClass_of_methodNamed B.named
  have hlocks := B.notSynchronized
  subst hsz
  have hD := hD0.self (sz := s.heap.size)
  generalize hAe : va_A [(mo, .inr (4, [.int th, .ref m1, .ref m2, .ref m3, .ref m4, .int mn])), (m1, .inl (cI, 12, .inl hf)), (m2, .inl (cZ, 12, .inl bf))] s.heap.size = A at hD hE ⊢
  have hA : ∀ q : Nat, s.heap.size ≤ q → A q := fun q h => by rw [← hAe]; exact Or.inr h
  have hS : va_S A s.heap s.heap [] := va_S.rf
  have hl := lv_entry ([.ref mo, .int i0]) (n := 4) (Nat.le_of_ble_eq_true rfl)
  rw [lg_entry_eq]
  generalize (lg_sl ([.ref mo, .int i0]) ++ List.replicate (4 - (lg_sl ([.ref mo, .int i0])).length) Slot.unset).toArray = ls at hl ⊢
  have hl : lv_has ls 4 [(0, .ref mo), (1, .int i0)] := hl
  refine lv_aload_n hx hb dX2_putBelow_0 rfl (lv_at hl 0 rfl) ?_
  refine lv_iload_n hx hb dX2_putBelow_1 rfl (lv_at hl 1 rfl) ?_
  refine vp_callSi (va_Run.run (va_runS (As := [.int i0]) (rest := [.ref mo]) ⟨hx, hb, hml, hown, hts⟩ (c_X2_isPlace_no l i0 (by assumption)) (va_cwS 1 hts gX2_putBelow_X2_isPlace rfl rfl rfl (by decide +kernel) ⟨Nat.le_of_ble_eq_true rfl, Nat.le_of_ble_eq_true rfl⟩) ⟨ny_blindT, fun U hU hW => ⟨rfl, trivial⟩⟩ rfl rfl hl.1 rfl (lv_room (Nat.le_of_ble_eq_true rfl)) dX2_putBelow_2 ⟨Nat.le_of_ble_eq_true rfl, Nat.le_of_ble_eq_true rfl⟩)) (fun r_2 hw_2 => ?_)
  have hw_2 : r_2 = 0 := hw_2
  subst hw_2
  refine lv_if_ne (tgt := 12) hx hb dX2_putBelow_5 (by decide) (fun c_5 => absurd (show (0 : Int32) = 0 by  decide) c_5) (fun c_5 => ?_)
  refine lv_iconst (v := 1) hx hb dX2_putBelow_8 (by decide) ?_
  refine lv_goto (tgt := 13) hx hb dX2_putBelow_9 (by decide) ?_
  refine lv_iconst (v := 1) hx hb dX2_putBelow_13 (by decide) ?_
  refine ny_i (wc := [(mo, .inr (4, [.int th, .ref m1, .ref m2, .ref m3, .ref m4, .int mn]))]) (wr := [(m1, .inl (cI, 12, .inl hf)), (m2, .inl (cZ, 12, .inl bf))]) hP hD hS hA [0] [1, 2] rfl rfl (by decide) (by decide) (va_runV (As := [.int 1, .int 1]) (rest := []) ⟨hx, hb, hml, hown, hts⟩ (c_X2_isThrown_1 l D mo m1 m2 m3 m4 s.heap.size th mn 1) (cwV 2 hts gX2_putBelow_X2_isThrown rfl rfl rfl (by decide +kernel) ⟨Nat.le_of_ble_eq_true rfl, Nat.le_of_ble_eq_true rfl⟩) ⟨ny_blind, va_recv hK hP (ci := 4) (q0 := 0) rfl rfl, fun U hU hW => ⟨rfl, ny_preU hE hP hK hD hS hA [0] rfl (by decide) rfl [] rfl U hU hW⟩⟩ rfl rfl hl.1 rfl (lv_room (Nat.le_of_ble_eq_true rfl)) dX2_putBelow_14 ⟨Nat.le_of_ble_eq_true rfl, Nat.le_of_ble_eq_true rfl⟩) (fun r_14 u H locs hw_14 hP hD hS => ?_)
  have hP : va_P D vwCl [(m1, .inl (cI, 12, .inl hf)), (m2, .inl (cZ, 12, .inl bf)), (mo, .inr (4, [.int 1, .ref m1, .ref m2, .ref m3, .ref m4, .int mn]))] H := hP
  have hD : va_D A [(m1, .inl (cI, 12, .inl hf)), (m2, .inl (cZ, 12, .inl bf)), (mo, .inr (4, [.int 1, .ref m1, .ref m2, .ref m3, .ref m4, .int mn]))] := hD
  have hw_14 : r_14 = 1 := hw_14
  subst hw_14
  refine lv_if_eq (tgt := 22) hx hb dX2_putBelow_17 (by decide) (fun c_17 => absurd c_17 (show ¬ ((1 : Int32) = 0) by  decide)) (fun c_17 => ?_)
  refine lv_lconst (v := 0) hx hb dX2_putBelow_20 (by decide) ?_
  have hP9 := hP.sub (ws' := [(mo, .inr (4, [.int 1, .ref m1, .ref m2, .ref m3, .ref m4, .int mn])), (m1, .inl (cI, 12, .inl hf)), (m2, .inl (cZ, 12, .inl bf))]) [2, 0, 1] rfl
  have hD9 := hD.sub (ws' := [(mo, .inr (4, [.int 1, .ref m1, .ref m2, .ref m3, .ref m4, .int mn])), (m1, .inl (cI, 12, .inl hf)), (m2, .inl (cZ, 12, .inl bf))]) [2, 0, 1] (by decide) rfl
  exact W.lret (v := 0) hx hb hr (fun t ht hW => ⟨⟨0, (), rfl, (rfl), by rw [ht]; exact hP9, va_K.moved hW.alike hK, hD9⟩, hS.F ht⟩) hS.2.2 dX2_putBelow_21
theorem in_X2_turn_X2 : ∀ w ∈ wsX20, w ∈ wsX2_turn := (fun _ h => List.mem_cons_of_mem _ (List.mem_append_left _ (List.mem_append_right _ h)))
set_option maxHeartbeats 4000000 in
set_option maxRecDepth 100000 in
theorem c_X2_turn (l : Launch) (D : va_G) (cI : ClassId) (cZ : ClassId) (mo : Nat) (m1 : Nat) (m2 : Nat) (m3 : Nat) (m4 : Nat) (sz : Nat) (th : Int32) (mn : Int32) (hf : Nat → Int32) (bf : Nat → Int32) (i0 : Int32) (gp0 : vp_in i0 12) (gH : ny_H hf) (gB : ny_BB bf) : Met l yX2_turn wsX2_turn ({ frames := 3, cells := 0, slots := 0, locals := 70 }) (va_Pc [.ref mo, .int i0] (ny_pre D [(cI, .int), (cZ, .boolean)] [(mo, .inr (4, [.int th, .ref m1, .ref m2, .ref m3, .ref m4, .int mn])), (m1, .inl (cI, 12, .inl hf)), (m2, .inl (cZ, 12, .inl bf))] sz)) (va_Ql (fun (r : Int64) (u : Unit) => r = f_bt (-hf i0.toNatClampNeg) (1 - bf i0.toNatClampNeg)) (fun (u : Unit) t => ny_at D [(cI, .int), (cZ, .boolean)] (va_A [(mo, .inr (4, [.int th, .ref m1, .ref m2, .ref m3, .ref m4, .int mn])), (m1, .inl (cI, 12, .inl hf)), (m2, .inl (cZ, 12, .inl bf))] sz) [(mo, .inr (4, [.int 0, .ref m1, .ref m2, .ref m3, .ref m4, .int mn])), (m1, .inl (cI, 12, .inl (upd hf i0.toNatClampNeg (-hf i0.toNatClampNeg)))), (m2, .inl (cZ, 12, .inl (upd bf i0.toNatClampNeg (f_z (-hf i0.toNatClampNeg) (1 - bf i0.toNatClampNeg)))))] t) (va_A [(mo, .inr (4, [.int th, .ref m1, .ref m2, .ref m3, .ref m4, .int mn])), (m1, .inl (cI, 12, .inl hf)), (m2, .inl (cZ, 12, .inl bf))] sz)) 0 0 (va_A [(mo, .inr (4, [.int th, .ref m1, .ref m2, .ref m3, .ref m4, .int mn])), (m1, .inl (cI, 12, .inl hf)), (m2, .inl (cZ, 12, .inl bf))] sz) := by
  refine Met.ofW (cc := cX2_turn) (maxL := 2) (ret := (some .long)) (by decide) rfl ?_
  intro p e s m args below meth c s₁ B hml hv
  obtain ⟨rfl, hsz, hP, hK, hD0, hE⟩ := hv
  have hx := B.exec
  have hb := B.bytes
  have hr := B.returns
  have hts := atoms_spec (ws := wsX2_turn) B.pre
  have hown : s.vm.findClass RX2 = some m.cls := findClass_of_methodNamed B.named
  have hlocks := B.notSynchronized
  subst hsz
  have hD := hD0.self (sz := s.heap.size)
  generalize hAe : va_A [(mo, .inr (4, [.int th, .ref m1, .ref m2, .ref m3, .ref m4, .int mn])), (m1, .inl (cI, 12, .inl hf)), (m2, .inl (cZ, 12, .inl bf))] s.heap.size = A at hD hE ⊢
  have hA : ∀ q : Nat, s.heap.size ≤ q → A q := fun q h => by rw [← hAe]; exact Or.inr h
  have hS : va_S A s.heap s.heap [] := va_S.rf
  have hl := lv_entry ([.ref mo, .int i0]) (n := 2) (Nat.le_of_ble_eq_true rfl)
  rw [lg_entry_eq]
  generalize (lg_sl ([.ref mo, .int i0]) ++ List.replicate (2 - (lg_sl ([.ref mo, .int i0])).length) Slot.unset).toArray = ls at hl ⊢
  have hl : lv_has ls 2 [(0, .ref mo), (1, .int i0)] := hl
  refine lv_aload_n hx hb dX2_turn_0 rfl (lv_at hl 0 rfl) ?_
  refine lv_iload_n hx hb dX2_turn_1 rfl (lv_at hl 1 rfl) ?_
  refine vp_callSi (va_Run.run (va_runS (As := [.int i0]) (rest := [.ref mo]) ⟨hx, hb, hml, hown, hts⟩ (c_X2_isPlace l i0 (by assumption)) (va_cwS 1 hts gX2_turn_X2_isPlace rfl rfl rfl (by decide +kernel) ⟨Nat.le_of_ble_eq_true rfl, Nat.le_of_ble_eq_true rfl⟩) ⟨ny_blindT, fun U hU hW => ⟨rfl, trivial⟩⟩ rfl rfl hl.1 rfl (lv_room (Nat.le_of_ble_eq_true rfl)) dX2_turn_2 ⟨Nat.le_of_ble_eq_true rfl, Nat.le_of_ble_eq_true rfl⟩)) (fun r_2 hw_2 => ?_)
  have hw_2 : r_2 = 1 := hw_2
  subst hw_2
  refine lv_if_ne (tgt := 12) hx hb dX2_turn_5 (by decide) (fun c_5 => ?_) (fun c_5 => absurd c_5 (show ¬ ((1 : Int32) = 0) by  decide))
  refine lv_iconst (v := 0) hx hb dX2_turn_12 (by decide) ?_
  refine lv_iconst (v := 1) hx hb dX2_turn_13 (by decide) ?_
  refine ny_i (wc := [(mo, .inr (4, [.int th, .ref m1, .ref m2, .ref m3, .ref m4, .int mn]))]) (wr := [(m1, .inl (cI, 12, .inl hf)), (m2, .inl (cZ, 12, .inl bf))]) hP hD hS hA [0] [1, 2] rfl rfl (by decide) (by decide) (va_runV (As := [.int 0, .int 1]) (rest := []) ⟨hx, hb, hml, hown, hts⟩ (c_X2_isThrown_0 l D mo m1 m2 m3 m4 s.heap.size th mn 1) (cwV 2 hts gX2_turn_X2_isThrown rfl rfl rfl (by decide +kernel) ⟨Nat.le_of_ble_eq_true rfl, Nat.le_of_ble_eq_true rfl⟩) ⟨ny_blind, va_recv hK hP (ci := 4) (q0 := 0) rfl rfl, fun U hU hW => ⟨rfl, ny_preU hE hP hK hD hS hA [0] rfl (by decide) rfl [] rfl U hU hW⟩⟩ rfl rfl hl.1 rfl (lv_room (Nat.le_of_ble_eq_true rfl)) dX2_turn_14 ⟨Nat.le_of_ble_eq_true rfl, Nat.le_of_ble_eq_true rfl⟩) (fun r_14 u H locs hw_14 hP hD hS => ?_)
  have hP : va_P D vwCl [(m1, .inl (cI, 12, .inl hf)), (m2, .inl (cZ, 12, .inl bf)), (mo, .inr (4, [.int 0, .ref m1, .ref m2, .ref m3, .ref m4, .int mn]))] H := hP
  have hD : va_D A [(m1, .inl (cI, 12, .inl hf)), (m2, .inl (cZ, 12, .inl bf)), (mo, .inr (4, [.int 0, .ref m1, .ref m2, .ref m3, .ref m4, .int mn]))] := hD
  have hw_14 : r_14 = 0 := hw_14
  subst hw_14
  refine lv_if_eq (tgt := 22) hx hb dX2_turn_17 (by decide) (fun c_17 => ?_) (fun c_17 => absurd (show (0 : Int32) = 0 by  decide) c_17)
  refine lv_aload_n hx hb dX2_turn_22 rfl (lv_at hl 0 rfl) ?_
  refine lv_iload_n hx hb dX2_turn_23 rfl (lv_at hl 1 rfl) ?_
  refine lv_aload_n hx hb dX2_turn_24 rfl (lv_at hl 0 rfl) ?_
  refine va_get (D := D) (ci := 4) (v := .ref m1) (C := RX2) (T := TX2) (N := 6) hx hb hts in_X2_turn_X2 hown hK hP 2 rfl rfl 1 (by decide) (hts (.fieldLink RX2 7 "NearestclockModel" "eighths" "[I") (List.mem_of_getElem? (i := 1) rfl)) (fun _ h9 => h9) rfl dX2_turn_25 ?_
  refine lv_iload_n hx hb dX2_turn_28 rfl (lv_at hl 1 rfl) ?_
  refine va_iald hx hb hK hP 0 0 rfl rfl (by assumption) dX2_turn_29 ?_
  refine lv_ineg hx hb dX2_turn_30 ?_
  refine lv_aload_n hx hb dX2_turn_31 rfl (lv_at hl 0 rfl) ?_
  refine va_get (D := D) (ci := 4) (v := .ref m2) (C := RX2) (T := TX2) (N := 6) hx hb hts in_X2_turn_X2 hown hK hP 2 rfl rfl 2 (by decide) (hts (.fieldLink RX2 13 "NearestclockModel" "below" "[Z") (List.mem_of_getElem? (i := 2) rfl)) (fun _ h9 => h9) rfl dX2_turn_32 ?_
  refine lv_iload_n hx hb dX2_turn_35 rfl (lv_at hl 1 rfl) ?_
  refine va_zald hx hb hK hP 1 1 rfl rfl (by assumption) dX2_turn_36 ?_
  refine lv_if_ne (tgt := 44) hx hb dX2_turn_37 (by decide) (fun c_37 => ?_) (fun c_37 => ?_)
  · refine lv_iconst (v := 0) hx hb dX2_turn_44 (by decide) ?_
    refine ny_ti (x2 := 1 - bf i0.toNatClampNeg) (n_1m (gB _ (n_ix gp0)) c_37) ?_
    refine ny_l (wc := [(mo, .inr (4, [.int 0, .ref m1, .ref m2, .ref m3, .ref m4, .int mn])), (m1, .inl (cI, 12, .inl hf)), (m2, .inl (cZ, 12, .inl bf))]) (wr := []) hP hD hS hA [2, 0, 1] [] rfl rfl (by decide) (by decide) (va_runV (As := [.int i0, .int (-(hf i0.toNatClampNeg)), .int (1 - bf i0.toNatClampNeg)]) (rest := []) ⟨hx, hb, hml, hown, hts⟩ (c_X2_lays l D cI cZ mo m1 m2 m3 m4 H.size 0 mn hf bf i0 (-(hf i0.toNatClampNeg)) (1 - bf i0.toNatClampNeg) (by assumption) (ny_R_ng (gH _ (n_ix gp0))) (n_1b (gB _ (n_ix gp0)))) (cwV 3 hts gX2_turn_X2_lays rfl rfl rfl (by decide +kernel) ⟨Nat.le_of_ble_eq_true rfl, Nat.le_of_ble_eq_true rfl⟩) ⟨ny_blind, va_recv hK hP (ci := 4) (q0 := 2) rfl rfl, fun U hU hW => ⟨rfl, ny_preU hE hP hK hD hS hA [2, 0, 1] rfl (by decide) rfl [0, 1] rfl U hU hW⟩⟩ rfl rfl hl.1 rfl (lv_room (Nat.le_of_ble_eq_true rfl)) dX2_turn_45 ⟨Nat.le_of_ble_eq_true rfl, Nat.le_of_ble_eq_true rfl⟩) (fun r_45 u H locs hw_45 hP hD hS => ?_)
    have hP : va_P D vwCl [(mo, .inr (4, [.int 0, .ref m1, .ref m2, .ref m3, .ref m4, .int mn])), (m1, .inl (cI, 12, .inl (upd hf i0.toNatClampNeg (-(hf i0.toNatClampNeg))))), (m2, .inl (cZ, 12, .inl (upd bf i0.toNatClampNeg (f_z (-(hf i0.toNatClampNeg)) (1 - bf i0.toNatClampNeg)))))] H := hP
    have hD : va_D A [(mo, .inr (4, [.int 0, .ref m1, .ref m2, .ref m3, .ref m4, .int mn])), (m1, .inl (cI, 12, .inl (upd hf i0.toNatClampNeg (-(hf i0.toNatClampNeg))))), (m2, .inl (cZ, 12, .inl (upd bf i0.toNatClampNeg (f_z (-(hf i0.toNatClampNeg)) (1 - bf i0.toNatClampNeg)))))] := hD
    have hw_45 : r_45 = f_bt (-(hf i0.toNatClampNeg)) (1 - bf i0.toNatClampNeg) := hw_45
    subst hw_45
    have hP9 := hP.sub (ws' := [(mo, .inr (4, [.int 0, .ref m1, .ref m2, .ref m3, .ref m4, .int mn])), (m1, .inl (cI, 12, .inl (upd hf i0.toNatClampNeg (-(hf i0.toNatClampNeg))))), (m2, .inl (cZ, 12, .inl (upd bf i0.toNatClampNeg (f_z (-(hf i0.toNatClampNeg)) (1 - bf i0.toNatClampNeg)))))]) [0, 1, 2] rfl
    have hD9 := hD.sub (ws' := [(mo, .inr (4, [.int 0, .ref m1, .ref m2, .ref m3, .ref m4, .int mn])), (m1, .inl (cI, 12, .inl (upd hf i0.toNatClampNeg (-(hf i0.toNatClampNeg))))), (m2, .inl (cZ, 12, .inl (upd bf i0.toNatClampNeg (f_z (-(hf i0.toNatClampNeg)) (1 - bf i0.toNatClampNeg)))))]) [0, 1, 2] (by decide) rfl
    exact W.lret (v := f_bt (-(hf i0.toNatClampNeg)) (1 - bf i0.toNatClampNeg)) hx hb hr (fun t ht hW => ⟨⟨f_bt (-(hf i0.toNatClampNeg)) (1 - bf i0.toNatClampNeg), (), rfl, (rfl), by rw [ht]; exact hP9, va_K.moved hW.alike hK, hD9⟩, hS.F ht⟩) hS.2.2 dX2_turn_48
  · refine lv_iconst (v := 1) hx hb dX2_turn_40 (by decide) ?_
    refine lv_goto (tgt := 45) hx hb dX2_turn_41 (by decide) ?_
    refine ny_ti (x2 := 1 - bf i0.toNatClampNeg) (n_1m0 c_37) ?_
    refine ny_l (wc := [(mo, .inr (4, [.int 0, .ref m1, .ref m2, .ref m3, .ref m4, .int mn])), (m1, .inl (cI, 12, .inl hf)), (m2, .inl (cZ, 12, .inl bf))]) (wr := []) hP hD hS hA [2, 0, 1] [] rfl rfl (by decide) (by decide) (va_runV (As := [.int i0, .int (-(hf i0.toNatClampNeg)), .int (1 - bf i0.toNatClampNeg)]) (rest := []) ⟨hx, hb, hml, hown, hts⟩ (c_X2_lays l D cI cZ mo m1 m2 m3 m4 H.size 0 mn hf bf i0 (-(hf i0.toNatClampNeg)) (1 - bf i0.toNatClampNeg) (by assumption) (ny_R_ng (gH _ (n_ix gp0))) (n_1b (gB _ (n_ix gp0)))) (cwV 3 hts gX2_turn_X2_lays rfl rfl rfl (by decide +kernel) ⟨Nat.le_of_ble_eq_true rfl, Nat.le_of_ble_eq_true rfl⟩) ⟨ny_blind, va_recv hK hP (ci := 4) (q0 := 2) rfl rfl, fun U hU hW => ⟨rfl, ny_preU hE hP hK hD hS hA [2, 0, 1] rfl (by decide) rfl [0, 1] rfl U hU hW⟩⟩ rfl rfl hl.1 rfl (lv_room (Nat.le_of_ble_eq_true rfl)) dX2_turn_45 ⟨Nat.le_of_ble_eq_true rfl, Nat.le_of_ble_eq_true rfl⟩) (fun r_45 u H locs hw_45 hP hD hS => ?_)
    have hP : va_P D vwCl [(mo, .inr (4, [.int 0, .ref m1, .ref m2, .ref m3, .ref m4, .int mn])), (m1, .inl (cI, 12, .inl (upd hf i0.toNatClampNeg (-(hf i0.toNatClampNeg))))), (m2, .inl (cZ, 12, .inl (upd bf i0.toNatClampNeg (f_z (-(hf i0.toNatClampNeg)) (1 - bf i0.toNatClampNeg)))))] H := hP
    have hD : va_D A [(mo, .inr (4, [.int 0, .ref m1, .ref m2, .ref m3, .ref m4, .int mn])), (m1, .inl (cI, 12, .inl (upd hf i0.toNatClampNeg (-(hf i0.toNatClampNeg))))), (m2, .inl (cZ, 12, .inl (upd bf i0.toNatClampNeg (f_z (-(hf i0.toNatClampNeg)) (1 - bf i0.toNatClampNeg)))))] := hD
    have hw_45 : r_45 = f_bt (-(hf i0.toNatClampNeg)) (1 - bf i0.toNatClampNeg) := hw_45
    subst hw_45
    have hP9 := hP.sub (ws' := [(mo, .inr (4, [.int 0, .ref m1, .ref m2, .ref m3, .ref m4, .int mn])), (m1, .inl (cI, 12, .inl (upd hf i0.toNatClampNeg (-(hf i0.toNatClampNeg))))), (m2, .inl (cZ, 12, .inl (upd bf i0.toNatClampNeg (f_z (-(hf i0.toNatClampNeg)) (1 - bf i0.toNatClampNeg)))))]) [0, 1, 2] rfl
    have hD9 := hD.sub (ws' := [(mo, .inr (4, [.int 0, .ref m1, .ref m2, .ref m3, .ref m4, .int mn])), (m1, .inl (cI, 12, .inl (upd hf i0.toNatClampNeg (-(hf i0.toNatClampNeg))))), (m2, .inl (cZ, 12, .inl (upd bf i0.toNatClampNeg (f_z (-(hf i0.toNatClampNeg)) (1 - bf i0.toNatClampNeg)))))]) [0, 1, 2] (by decide) rfl
    exact W.lret (v := f_bt (-(hf i0.toNatClampNeg)) (1 - bf i0.toNatClampNeg)) hx hb hr (fun t ht hW => ⟨⟨f_bt (-(hf i0.toNatClampNeg)) (1 - bf i0.toNatClampNeg), (), rfl, (rfl), by rw [ht]; exact hP9, va_K.moved hW.alike hK, hD9⟩, hS.F ht⟩) hS.2.2 dX2_turn_48
set_option maxHeartbeats 4000000 in
set_option maxRecDepth 100000 in
theorem c_X2_turn_noP (l : Launch) (D : va_G) (cI : ClassId) (cZ : ClassId) (mo : Nat) (m1 : Nat) (m2 : Nat) (m3 : Nat) (m4 : Nat) (sz : Nat) (th : Int32) (mn : Int32) (hf : Nat → Int32) (bf : Nat → Int32) (i0 : Int32) (gp0 : ¬ vp_in i0 12) : Met l yX2_turn wsX2_turn ({ frames := 1, cells := 0, slots := 0, locals := 22 }) (va_Pc [.ref mo, .int i0] (ny_pre D [(cI, .int), (cZ, .boolean)] [(mo, .inr (4, [.int th, .ref m1, .ref m2, .ref m3, .ref m4, .int mn])), (m1, .inl (cI, 12, .inl hf)), (m2, .inl (cZ, 12, .inl bf))] sz)) (va_Ql (fun (r : Int64) (u : Unit) => r = 0) (fun (u : Unit) t => ny_at D [(cI, .int), (cZ, .boolean)] (va_A [(mo, .inr (4, [.int th, .ref m1, .ref m2, .ref m3, .ref m4, .int mn])), (m1, .inl (cI, 12, .inl hf)), (m2, .inl (cZ, 12, .inl bf))] sz) [(mo, .inr (4, [.int 1, .ref m1, .ref m2, .ref m3, .ref m4, .int mn])), (m1, .inl (cI, 12, .inl hf)), (m2, .inl (cZ, 12, .inl bf))] t) (va_A [(mo, .inr (4, [.int th, .ref m1, .ref m2, .ref m3, .ref m4, .int mn])), (m1, .inl (cI, 12, .inl hf)), (m2, .inl (cZ, 12, .inl bf))] sz)) 0 0 (va_A [(mo, .inr (4, [.int th, .ref m1, .ref m2, .ref m3, .ref m4, .int mn])), (m1, .inl (cI, 12, .inl hf)), (m2, .inl (cZ, 12, .inl bf))] sz) := by
  refine Met.ofW (cc := cX2_turn) (maxL := 2) (ret := (some .long)) (by decide) rfl ?_
  intro p e s m args below meth c s₁ B hml hv
  obtain ⟨rfl, hsz, hP, hK, hD0, hE⟩ := hv
  have hx := B.exec
  have hb := B.bytes
  have hr := B.returns
  have hts := atoms_spec (ws := wsX2_turn) B.pre
  have hown : s.vm.findClass RX2 = some m.cls := findClass_of_methodNamed B.named
  have hlocks := B.notSynchronized
  subst hsz
  have hD := hD0.self (sz := s.heap.size)
  generalize hAe : va_A [(mo, .inr (4, [.int th, .ref m1, .ref m2, .ref m3, .ref m4, .int mn])), (m1, .inl (cI, 12, .inl hf)), (m2, .inl (cZ, 12, .inl bf))] s.heap.size = A at hD hE ⊢
  have hA : ∀ q : Nat, s.heap.size ≤ q → A q := fun q h => by rw [← hAe]; exact Or.inr h
  have hS : va_S A s.heap s.heap [] := va_S.rf
  have hl := lv_entry ([.ref mo, .int i0]) (n := 2) (Nat.le_of_ble_eq_true rfl)
  rw [lg_entry_eq]
  generalize (lg_sl ([.ref mo, .int i0]) ++ List.replicate (2 - (lg_sl ([.ref mo, .int i0])).length) Slot.unset).toArray = ls at hl ⊢
  have hl : lv_has ls 2 [(0, .ref mo), (1, .int i0)] := hl
  refine lv_aload_n hx hb dX2_turn_0 rfl (lv_at hl 0 rfl) ?_
  refine lv_iload_n hx hb dX2_turn_1 rfl (lv_at hl 1 rfl) ?_
  refine vp_callSi (va_Run.run (va_runS (As := [.int i0]) (rest := [.ref mo]) ⟨hx, hb, hml, hown, hts⟩ (c_X2_isPlace_no l i0 (by assumption)) (va_cwS 1 hts gX2_turn_X2_isPlace rfl rfl rfl (by decide +kernel) ⟨Nat.le_of_ble_eq_true rfl, Nat.le_of_ble_eq_true rfl⟩) ⟨ny_blindT, fun U hU hW => ⟨rfl, trivial⟩⟩ rfl rfl hl.1 rfl (lv_room (Nat.le_of_ble_eq_true rfl)) dX2_turn_2 ⟨Nat.le_of_ble_eq_true rfl, Nat.le_of_ble_eq_true rfl⟩)) (fun r_2 hw_2 => ?_)
  have hw_2 : r_2 = 0 := hw_2
  subst hw_2
  refine lv_if_ne (tgt := 12) hx hb dX2_turn_5 (by decide) (fun c_5 => absurd (show (0 : Int32) = 0 by  decide) c_5) (fun c_5 => ?_)
  refine lv_iconst (v := 1) hx hb dX2_turn_8 (by decide) ?_
  refine lv_goto (tgt := 13) hx hb dX2_turn_9 (by decide) ?_
  refine lv_iconst (v := 1) hx hb dX2_turn_13 (by decide) ?_
  refine ny_i (wc := [(mo, .inr (4, [.int th, .ref m1, .ref m2, .ref m3, .ref m4, .int mn]))]) (wr := [(m1, .inl (cI, 12, .inl hf)), (m2, .inl (cZ, 12, .inl bf))]) hP hD hS hA [0] [1, 2] rfl rfl (by decide) (by decide) (va_runV (As := [.int 1, .int 1]) (rest := []) ⟨hx, hb, hml, hown, hts⟩ (c_X2_isThrown_1 l D mo m1 m2 m3 m4 s.heap.size th mn 1) (cwV 2 hts gX2_turn_X2_isThrown rfl rfl rfl (by decide +kernel) ⟨Nat.le_of_ble_eq_true rfl, Nat.le_of_ble_eq_true rfl⟩) ⟨ny_blind, va_recv hK hP (ci := 4) (q0 := 0) rfl rfl, fun U hU hW => ⟨rfl, ny_preU hE hP hK hD hS hA [0] rfl (by decide) rfl [] rfl U hU hW⟩⟩ rfl rfl hl.1 rfl (lv_room (Nat.le_of_ble_eq_true rfl)) dX2_turn_14 ⟨Nat.le_of_ble_eq_true rfl, Nat.le_of_ble_eq_true rfl⟩) (fun r_14 u H locs hw_14 hP hD hS => ?_)
  have hP : va_P D vwCl [(m1, .inl (cI, 12, .inl hf)), (m2, .inl (cZ, 12, .inl bf)), (mo, .inr (4, [.int 1, .ref m1, .ref m2, .ref m3, .ref m4, .int mn]))] H := hP
  have hD : va_D A [(m1, .inl (cI, 12, .inl hf)), (m2, .inl (cZ, 12, .inl bf)), (mo, .inr (4, [.int 1, .ref m1, .ref m2, .ref m3, .ref m4, .int mn]))] := hD
  have hw_14 : r_14 = 1 := hw_14
  subst hw_14
  refine lv_if_eq (tgt := 22) hx hb dX2_turn_17 (by decide) (fun c_17 => absurd c_17 (show ¬ ((1 : Int32) = 0) by  decide)) (fun c_17 => ?_)
  refine lv_lconst (v := 0) hx hb dX2_turn_20 (by decide) ?_
  have hP9 := hP.sub (ws' := [(mo, .inr (4, [.int 1, .ref m1, .ref m2, .ref m3, .ref m4, .int mn])), (m1, .inl (cI, 12, .inl hf)), (m2, .inl (cZ, 12, .inl bf))]) [2, 0, 1] rfl
  have hD9 := hD.sub (ws' := [(mo, .inr (4, [.int 1, .ref m1, .ref m2, .ref m3, .ref m4, .int mn])), (m1, .inl (cI, 12, .inl hf)), (m2, .inl (cZ, 12, .inl bf))]) [2, 0, 1] (by decide) rfl
  exact W.lret (v := 0) hx hb hr (fun t ht hW => ⟨⟨0, (), rfl, (rfl), by rw [ht]; exact hP9, va_K.moved hW.alike hK, hD9⟩, hS.F ht⟩) hS.2.2 dX2_turn_21
theorem in_X2_eighths_X2 : ∀ w ∈ wsX20, w ∈ wsX2_eighths := (fun _ h => List.mem_cons_of_mem _ (List.mem_append_left _ (List.mem_append_right _ h)))
set_option maxHeartbeats 4000000 in
set_option maxRecDepth 100000 in
theorem c_X2_eighths (l : Launch) (D : va_G) (cI : ClassId) (cZ : ClassId) (mo : Nat) (m1 : Nat) (m2 : Nat) (m3 : Nat) (m4 : Nat) (sz : Nat) (th : Int32) (mn : Int32) (hf : Nat → Int32) (bf : Nat → Int32) (i0 : Int32) (gp0 : vp_in i0 12) : Met l yX2_eighths wsX2_eighths ({ frames := 1, cells := 0, slots := 0, locals := 22 }) (va_Pc [.ref mo, .int i0] (ny_pre D [(cI, .int), (cZ, .boolean)] [(mo, .inr (4, [.int th, .ref m1, .ref m2, .ref m3, .ref m4, .int mn])), (m1, .inl (cI, 12, .inl hf)), (m2, .inl (cZ, 12, .inl bf))] sz)) (va_Qi (fun (r : Int32) (u : Unit) => r = hf i0.toNatClampNeg) (fun (u : Unit) t => ny_at D [(cI, .int), (cZ, .boolean)] (va_A [(mo, .inr (4, [.int th, .ref m1, .ref m2, .ref m3, .ref m4, .int mn])), (m1, .inl (cI, 12, .inl hf)), (m2, .inl (cZ, 12, .inl bf))] sz) [(mo, .inr (4, [.int 0, .ref m1, .ref m2, .ref m3, .ref m4, .int mn])), (m1, .inl (cI, 12, .inl hf)), (m2, .inl (cZ, 12, .inl bf))] t) (va_A [(mo, .inr (4, [.int th, .ref m1, .ref m2, .ref m3, .ref m4, .int mn])), (m1, .inl (cI, 12, .inl hf)), (m2, .inl (cZ, 12, .inl bf))] sz)) 0 0 (va_A [(mo, .inr (4, [.int th, .ref m1, .ref m2, .ref m3, .ref m4, .int mn])), (m1, .inl (cI, 12, .inl hf)), (m2, .inl (cZ, 12, .inl bf))] sz) := by
  refine Met.ofW (cc := cX2_eighths) (maxL := 2) (ret := (some .int)) (by decide) rfl ?_
  intro p e s m args below meth c s₁ B hml hv
  obtain ⟨rfl, hsz, hP, hK, hD0, hE⟩ := hv
  have hx := B.exec
  have hb := B.bytes
  have hr := B.returns
  have hts := atoms_spec (ws := wsX2_eighths) B.pre
  have hown : s.vm.findClass RX2 = some m.cls := findClass_of_methodNamed B.named
  have hlocks := B.notSynchronized
  subst hsz
  have hD := hD0.self (sz := s.heap.size)
  generalize hAe : va_A [(mo, .inr (4, [.int th, .ref m1, .ref m2, .ref m3, .ref m4, .int mn])), (m1, .inl (cI, 12, .inl hf)), (m2, .inl (cZ, 12, .inl bf))] s.heap.size = A at hD hE ⊢
  have hA : ∀ q : Nat, s.heap.size ≤ q → A q := fun q h => by rw [← hAe]; exact Or.inr h
  have hS : va_S A s.heap s.heap [] := va_S.rf
  have hl := lv_entry ([.ref mo, .int i0]) (n := 2) (Nat.le_of_ble_eq_true rfl)
  rw [lg_entry_eq]
  generalize (lg_sl ([.ref mo, .int i0]) ++ List.replicate (2 - (lg_sl ([.ref mo, .int i0])).length) Slot.unset).toArray = ls at hl ⊢
  have hl : lv_has ls 2 [(0, .ref mo), (1, .int i0)] := hl
  refine lv_aload_n hx hb dX2_eighths_0 rfl (lv_at hl 0 rfl) ?_
  refine lv_iload_n hx hb dX2_eighths_1 rfl (lv_at hl 1 rfl) ?_
  refine vp_callSi (va_Run.run (va_runS (As := [.int i0]) (rest := [.ref mo]) ⟨hx, hb, hml, hown, hts⟩ (c_X2_isPlace l i0 (by assumption)) (va_cwS 1 hts gX2_eighths_X2_isPlace rfl rfl rfl (by decide +kernel) ⟨Nat.le_of_ble_eq_true rfl, Nat.le_of_ble_eq_true rfl⟩) ⟨ny_blindT, fun U hU hW => ⟨rfl, trivial⟩⟩ rfl rfl hl.1 rfl (lv_room (Nat.le_of_ble_eq_true rfl)) dX2_eighths_2 ⟨Nat.le_of_ble_eq_true rfl, Nat.le_of_ble_eq_true rfl⟩)) (fun r_2 hw_2 => ?_)
  have hw_2 : r_2 = 1 := hw_2
  subst hw_2
  refine lv_if_ne (tgt := 12) hx hb dX2_eighths_5 (by decide) (fun c_5 => ?_) (fun c_5 => absurd c_5 (show ¬ ((1 : Int32) = 0) by  decide))
  refine lv_iconst (v := 0) hx hb dX2_eighths_12 (by decide) ?_
  refine lv_iconst (v := 1) hx hb dX2_eighths_13 (by decide) ?_
  refine ny_i (wc := [(mo, .inr (4, [.int th, .ref m1, .ref m2, .ref m3, .ref m4, .int mn]))]) (wr := [(m1, .inl (cI, 12, .inl hf)), (m2, .inl (cZ, 12, .inl bf))]) hP hD hS hA [0] [1, 2] rfl rfl (by decide) (by decide) (va_runV (As := [.int 0, .int 1]) (rest := []) ⟨hx, hb, hml, hown, hts⟩ (c_X2_isThrown_0 l D mo m1 m2 m3 m4 s.heap.size th mn 1) (cwV 2 hts gX2_eighths_X2_isThrown rfl rfl rfl (by decide +kernel) ⟨Nat.le_of_ble_eq_true rfl, Nat.le_of_ble_eq_true rfl⟩) ⟨ny_blind, va_recv hK hP (ci := 4) (q0 := 0) rfl rfl, fun U hU hW => ⟨rfl, ny_preU hE hP hK hD hS hA [0] rfl (by decide) rfl [] rfl U hU hW⟩⟩ rfl rfl hl.1 rfl (lv_room (Nat.le_of_ble_eq_true rfl)) dX2_eighths_14 ⟨Nat.le_of_ble_eq_true rfl, Nat.le_of_ble_eq_true rfl⟩) (fun r_14 u H locs hw_14 hP hD hS => ?_)
  have hP : va_P D vwCl [(m1, .inl (cI, 12, .inl hf)), (m2, .inl (cZ, 12, .inl bf)), (mo, .inr (4, [.int 0, .ref m1, .ref m2, .ref m3, .ref m4, .int mn]))] H := hP
  have hD : va_D A [(m1, .inl (cI, 12, .inl hf)), (m2, .inl (cZ, 12, .inl bf)), (mo, .inr (4, [.int 0, .ref m1, .ref m2, .ref m3, .ref m4, .int mn]))] := hD
  have hw_14 : r_14 = 0 := hw_14
  subst hw_14
  refine lv_if_eq (tgt := 24) hx hb dX2_eighths_17 (by decide) (fun c_17 => ?_) (fun c_17 => absurd (show (0 : Int32) = 0 by  decide) c_17)
  refine lv_aload_n hx hb dX2_eighths_24 rfl (lv_at hl 0 rfl) ?_
  refine va_get (D := D) (ci := 4) (v := .ref m1) (C := RX2) (T := TX2) (N := 6) hx hb hts in_X2_eighths_X2 hown hK hP 2 rfl rfl 1 (by decide) (hts (.fieldLink RX2 7 "NearestclockModel" "eighths" "[I") (List.mem_of_getElem? (i := 1) rfl)) (fun _ h9 => h9) rfl dX2_eighths_25 ?_
  refine lv_iload_n hx hb dX2_eighths_28 rfl (lv_at hl 1 rfl) ?_
  refine va_iald hx hb hK hP 0 0 rfl rfl (by assumption) dX2_eighths_29 ?_
  have hP9 := hP.sub (ws' := [(mo, .inr (4, [.int 0, .ref m1, .ref m2, .ref m3, .ref m4, .int mn])), (m1, .inl (cI, 12, .inl hf)), (m2, .inl (cZ, 12, .inl bf))]) [2, 0, 1] rfl
  have hD9 := hD.sub (ws' := [(mo, .inr (4, [.int 0, .ref m1, .ref m2, .ref m3, .ref m4, .int mn])), (m1, .inl (cI, 12, .inl hf)), (m2, .inl (cZ, 12, .inl bf))]) [2, 0, 1] (by decide) rfl
  exact W.iret (v := hf i0.toNatClampNeg) hx hb hr (fun t ht hW => ⟨⟨hf i0.toNatClampNeg, (), rfl, (rfl), by rw [ht]; exact hP9, va_K.moved hW.alike hK, hD9⟩, hS.F ht⟩) hS.2.2 dX2_eighths_30
set_option maxHeartbeats 4000000 in
set_option maxRecDepth 100000 in
theorem c_X2_eighths_noP (l : Launch) (D : va_G) (cI : ClassId) (cZ : ClassId) (mo : Nat) (m1 : Nat) (m2 : Nat) (m3 : Nat) (m4 : Nat) (sz : Nat) (th : Int32) (mn : Int32) (hf : Nat → Int32) (bf : Nat → Int32) (i0 : Int32) (gp0 : ¬ vp_in i0 12) : Met l yX2_eighths wsX2_eighths ({ frames := 1, cells := 0, slots := 0, locals := 22 }) (va_Pc [.ref mo, .int i0] (ny_pre D [(cI, .int), (cZ, .boolean)] [(mo, .inr (4, [.int th, .ref m1, .ref m2, .ref m3, .ref m4, .int mn])), (m1, .inl (cI, 12, .inl hf)), (m2, .inl (cZ, 12, .inl bf))] sz)) (va_Qi (fun (r : Int32) (u : Unit) => r = 0) (fun (u : Unit) t => ny_at D [(cI, .int), (cZ, .boolean)] (va_A [(mo, .inr (4, [.int th, .ref m1, .ref m2, .ref m3, .ref m4, .int mn])), (m1, .inl (cI, 12, .inl hf)), (m2, .inl (cZ, 12, .inl bf))] sz) [(mo, .inr (4, [.int 1, .ref m1, .ref m2, .ref m3, .ref m4, .int mn])), (m1, .inl (cI, 12, .inl hf)), (m2, .inl (cZ, 12, .inl bf))] t) (va_A [(mo, .inr (4, [.int th, .ref m1, .ref m2, .ref m3, .ref m4, .int mn])), (m1, .inl (cI, 12, .inl hf)), (m2, .inl (cZ, 12, .inl bf))] sz)) 0 0 (va_A [(mo, .inr (4, [.int th, .ref m1, .ref m2, .ref m3, .ref m4, .int mn])), (m1, .inl (cI, 12, .inl hf)), (m2, .inl (cZ, 12, .inl bf))] sz) := by
  refine Met.ofW (cc := cX2_eighths) (maxL := 2) (ret := (some .int)) (by decide) rfl ?_
  intro p e s m args below meth c s₁ B hml hv
  obtain ⟨rfl, hsz, hP, hK, hD0, hE⟩ := hv
  have hx := B.exec
  have hb := B.bytes
  have hr := B.returns
  have hts := atoms_spec (ws := wsX2_eighths) B.pre
  have hown : s.vm.findClass RX2 = some m.cls := findClass_of_methodNamed B.named
  have hlocks := B.notSynchronized
  subst hsz
  have hD := hD0.self (sz := s.heap.size)
  generalize hAe : va_A [(mo, .inr (4, [.int th, .ref m1, .ref m2, .ref m3, .ref m4, .int mn])), (m1, .inl (cI, 12, .inl hf)), (m2, .inl (cZ, 12, .inl bf))] s.heap.size = A at hD hE ⊢
  have hA : ∀ q : Nat, s.heap.size ≤ q → A q := fun q h => by rw [← hAe]; exact Or.inr h
  have hS : va_S A s.heap s.heap [] := va_S.rf
  have hl := lv_entry ([.ref mo, .int i0]) (n := 2) (Nat.le_of_ble_eq_true rfl)
  rw [lg_entry_eq]
  generalize (lg_sl ([.ref mo, .int i0]) ++ List.replicate (2 - (lg_sl ([.ref mo, .int i0])).length) Slot.unset).toArray = ls at hl ⊢
  have hl : lv_has ls 2 [(0, .ref mo), (1, .int i0)] := hl
  refine lv_aload_n hx hb dX2_eighths_0 rfl (lv_at hl 0 rfl) ?_
  refine lv_iload_n hx hb dX2_eighths_1 rfl (lv_at hl 1 rfl) ?_
  refine vp_callSi (va_Run.run (va_runS (As := [.int i0]) (rest := [.ref mo]) ⟨hx, hb, hml, hown, hts⟩ (c_X2_isPlace_no l i0 (by assumption)) (va_cwS 1 hts gX2_eighths_X2_isPlace rfl rfl rfl (by decide +kernel) ⟨Nat.le_of_ble_eq_true rfl, Nat.le_of_ble_eq_true rfl⟩) ⟨ny_blindT, fun U hU hW => ⟨rfl, trivial⟩⟩ rfl rfl hl.1 rfl (lv_room (Nat.le_of_ble_eq_true rfl)) dX2_eighths_2 ⟨Nat.le_of_ble_eq_true rfl, Nat.le_of_ble_eq_true rfl⟩)) (fun r_2 hw_2 => ?_)
  have hw_2 : r_2 = 0 := hw_2
  subst hw_2
  refine lv_if_ne (tgt := 12) hx hb dX2_eighths_5 (by decide) (fun c_5 => absurd (show (0 : Int32) = 0 by  decide) c_5) (fun c_5 => ?_)
  refine lv_iconst (v := 1) hx hb dX2_eighths_8 (by decide) ?_
  refine lv_goto (tgt := 13) hx hb dX2_eighths_9 (by decide) ?_
  refine lv_iconst (v := 1) hx hb dX2_eighths_13 (by decide) ?_
  refine ny_i (wc := [(mo, .inr (4, [.int th, .ref m1, .ref m2, .ref m3, .ref m4, .int mn]))]) (wr := [(m1, .inl (cI, 12, .inl hf)), (m2, .inl (cZ, 12, .inl bf))]) hP hD hS hA [0] [1, 2] rfl rfl (by decide) (by decide) (va_runV (As := [.int 1, .int 1]) (rest := []) ⟨hx, hb, hml, hown, hts⟩ (c_X2_isThrown_1 l D mo m1 m2 m3 m4 s.heap.size th mn 1) (cwV 2 hts gX2_eighths_X2_isThrown rfl rfl rfl (by decide +kernel) ⟨Nat.le_of_ble_eq_true rfl, Nat.le_of_ble_eq_true rfl⟩) ⟨ny_blind, va_recv hK hP (ci := 4) (q0 := 0) rfl rfl, fun U hU hW => ⟨rfl, ny_preU hE hP hK hD hS hA [0] rfl (by decide) rfl [] rfl U hU hW⟩⟩ rfl rfl hl.1 rfl (lv_room (Nat.le_of_ble_eq_true rfl)) dX2_eighths_14 ⟨Nat.le_of_ble_eq_true rfl, Nat.le_of_ble_eq_true rfl⟩) (fun r_14 u H locs hw_14 hP hD hS => ?_)
  have hP : va_P D vwCl [(m1, .inl (cI, 12, .inl hf)), (m2, .inl (cZ, 12, .inl bf)), (mo, .inr (4, [.int 1, .ref m1, .ref m2, .ref m3, .ref m4, .int mn]))] H := hP
  have hD : va_D A [(m1, .inl (cI, 12, .inl hf)), (m2, .inl (cZ, 12, .inl bf)), (mo, .inr (4, [.int 1, .ref m1, .ref m2, .ref m3, .ref m4, .int mn]))] := hD
  have hw_14 : r_14 = 1 := hw_14
  subst hw_14
  refine lv_if_eq (tgt := 24) hx hb dX2_eighths_17 (by decide) (fun c_17 => absurd c_17 (show ¬ ((1 : Int32) = 0) by  decide)) (fun c_17 => ?_)
  refine lv_iconst (v := 0) hx hb dX2_eighths_20 (by decide) ?_
  refine lv_goto (tgt := 30) hx hb dX2_eighths_21 (by decide) ?_
  have hP9 := hP.sub (ws' := [(mo, .inr (4, [.int 1, .ref m1, .ref m2, .ref m3, .ref m4, .int mn])), (m1, .inl (cI, 12, .inl hf)), (m2, .inl (cZ, 12, .inl bf))]) [2, 0, 1] rfl
  have hD9 := hD.sub (ws' := [(mo, .inr (4, [.int 1, .ref m1, .ref m2, .ref m3, .ref m4, .int mn])), (m1, .inl (cI, 12, .inl hf)), (m2, .inl (cZ, 12, .inl bf))]) [2, 0, 1] (by decide) rfl
  exact W.iret (v := 0) hx hb hr (fun t ht hW => ⟨⟨0, (), rfl, (rfl), by rw [ht]; exact hP9, va_K.moved hW.alike hK, hD9⟩, hS.F ht⟩) hS.2.2 dX2_eighths_30
theorem in_X2_bits_X2 : ∀ w ∈ wsX20, w ∈ wsX2_bits := (fun _ h => List.mem_cons_of_mem _ (List.mem_append_left _ (List.mem_append_right _ h)))
set_option maxHeartbeats 4000000 in
set_option maxRecDepth 100000 in
theorem c_X2_bits (l : Launch) (D : va_G) (cI : ClassId) (cZ : ClassId) (mo : Nat) (m1 : Nat) (m2 : Nat) (m3 : Nat) (m4 : Nat) (sz : Nat) (th : Int32) (mn : Int32) (hf : Nat → Int32) (bf : Nat → Int32) (i0 : Int32) (gp0 : vp_in i0 12) (gH : ny_H hf) : Met l yX2_bits wsX2_bits ({ frames := 2, cells := 0, slots := 0, locals := 47 }) (va_Pc [.ref mo, .int i0] (ny_pre D [(cI, .int), (cZ, .boolean)] [(mo, .inr (4, [.int th, .ref m1, .ref m2, .ref m3, .ref m4, .int mn])), (m1, .inl (cI, 12, .inl hf)), (m2, .inl (cZ, 12, .inl bf))] sz)) (va_Ql (fun (r : Int64) (u : Unit) => r = f_bt (hf i0.toNatClampNeg) (bf i0.toNatClampNeg)) (fun (u : Unit) t => ny_at D [(cI, .int), (cZ, .boolean)] (va_A [(mo, .inr (4, [.int th, .ref m1, .ref m2, .ref m3, .ref m4, .int mn])), (m1, .inl (cI, 12, .inl hf)), (m2, .inl (cZ, 12, .inl bf))] sz) [(mo, .inr (4, [.int 0, .ref m1, .ref m2, .ref m3, .ref m4, .int mn])), (m1, .inl (cI, 12, .inl hf)), (m2, .inl (cZ, 12, .inl bf))] t) (va_A [(mo, .inr (4, [.int th, .ref m1, .ref m2, .ref m3, .ref m4, .int mn])), (m1, .inl (cI, 12, .inl hf)), (m2, .inl (cZ, 12, .inl bf))] sz)) 0 0 (va_A [(mo, .inr (4, [.int th, .ref m1, .ref m2, .ref m3, .ref m4, .int mn])), (m1, .inl (cI, 12, .inl hf)), (m2, .inl (cZ, 12, .inl bf))] sz) := by
  refine Met.ofW (cc := cX2_bits) (maxL := 2) (ret := (some .long)) (by decide) rfl ?_
  intro p e s m args below meth c s₁ B hml hv
  obtain ⟨rfl, hsz, hP, hK, hD0, hE⟩ := hv
  have hx := B.exec
  have hb := B.bytes
  have hr := B.returns
  have hts := atoms_spec (ws := wsX2_bits) B.pre
  have hown : s.vm.findClass RX2 = some m.cls := findClass_of_methodNamed B.named
  have hlocks := B.notSynchronized
  subst hsz
  have hD := hD0.self (sz := s.heap.size)
  generalize hAe : va_A [(mo, .inr (4, [.int th, .ref m1, .ref m2, .ref m3, .ref m4, .int mn])), (m1, .inl (cI, 12, .inl hf)), (m2, .inl (cZ, 12, .inl bf))] s.heap.size = A at hD hE ⊢
  have hA : ∀ q : Nat, s.heap.size ≤ q → A q := fun q h => by rw [← hAe]; exact Or.inr h
  have hS : va_S A s.heap s.heap [] := va_S.rf
  have hl := lv_entry ([.ref mo, .int i0]) (n := 2) (Nat.le_of_ble_eq_true rfl)
  rw [lg_entry_eq]
  generalize (lg_sl ([.ref mo, .int i0]) ++ List.replicate (2 - (lg_sl ([.ref mo, .int i0])).length) Slot.unset).toArray = ls at hl ⊢
  have hl : lv_has ls 2 [(0, .ref mo), (1, .int i0)] := hl
  refine lv_aload_n hx hb dX2_bits_0 rfl (lv_at hl 0 rfl) ?_
  refine lv_iload_n hx hb dX2_bits_1 rfl (lv_at hl 1 rfl) ?_
  refine vp_callSi (va_Run.run (va_runS (As := [.int i0]) (rest := [.ref mo]) ⟨hx, hb, hml, hown, hts⟩ (c_X2_isPlace l i0 (by assumption)) (va_cwS 1 hts gX2_bits_X2_isPlace rfl rfl rfl (by decide +kernel) ⟨Nat.le_of_ble_eq_true rfl, Nat.le_of_ble_eq_true rfl⟩) ⟨ny_blindT, fun U hU hW => ⟨rfl, trivial⟩⟩ rfl rfl hl.1 rfl (lv_room (Nat.le_of_ble_eq_true rfl)) dX2_bits_2 ⟨Nat.le_of_ble_eq_true rfl, Nat.le_of_ble_eq_true rfl⟩)) (fun r_2 hw_2 => ?_)
  have hw_2 : r_2 = 1 := hw_2
  subst hw_2
  refine lv_if_ne (tgt := 12) hx hb dX2_bits_5 (by decide) (fun c_5 => ?_) (fun c_5 => absurd c_5 (show ¬ ((1 : Int32) = 0) by  decide))
  refine lv_iconst (v := 0) hx hb dX2_bits_12 (by decide) ?_
  refine lv_iconst (v := 1) hx hb dX2_bits_13 (by decide) ?_
  refine ny_i (wc := [(mo, .inr (4, [.int th, .ref m1, .ref m2, .ref m3, .ref m4, .int mn]))]) (wr := [(m1, .inl (cI, 12, .inl hf)), (m2, .inl (cZ, 12, .inl bf))]) hP hD hS hA [0] [1, 2] rfl rfl (by decide) (by decide) (va_runV (As := [.int 0, .int 1]) (rest := []) ⟨hx, hb, hml, hown, hts⟩ (c_X2_isThrown_0 l D mo m1 m2 m3 m4 s.heap.size th mn 1) (cwV 2 hts gX2_bits_X2_isThrown rfl rfl rfl (by decide +kernel) ⟨Nat.le_of_ble_eq_true rfl, Nat.le_of_ble_eq_true rfl⟩) ⟨ny_blind, va_recv hK hP (ci := 4) (q0 := 0) rfl rfl, fun U hU hW => ⟨rfl, ny_preU hE hP hK hD hS hA [0] rfl (by decide) rfl [] rfl U hU hW⟩⟩ rfl rfl hl.1 rfl (lv_room (Nat.le_of_ble_eq_true rfl)) dX2_bits_14 ⟨Nat.le_of_ble_eq_true rfl, Nat.le_of_ble_eq_true rfl⟩) (fun r_14 u H locs hw_14 hP hD hS => ?_)
  have hP : va_P D vwCl [(m1, .inl (cI, 12, .inl hf)), (m2, .inl (cZ, 12, .inl bf)), (mo, .inr (4, [.int 0, .ref m1, .ref m2, .ref m3, .ref m4, .int mn]))] H := hP
  have hD : va_D A [(m1, .inl (cI, 12, .inl hf)), (m2, .inl (cZ, 12, .inl bf)), (mo, .inr (4, [.int 0, .ref m1, .ref m2, .ref m3, .ref m4, .int mn]))] := hD
  have hw_14 : r_14 = 0 := hw_14
  subst hw_14
  refine lv_if_eq (tgt := 24) hx hb dX2_bits_17 (by decide) (fun c_17 => ?_) (fun c_17 => absurd (show (0 : Int32) = 0 by  decide) c_17)
  refine lv_aload_n hx hb dX2_bits_24 rfl (lv_at hl 0 rfl) ?_
  refine va_get (D := D) (ci := 4) (v := .ref m1) (C := RX2) (T := TX2) (N := 6) hx hb hts in_X2_bits_X2 hown hK hP 2 rfl rfl 1 (by decide) (hts (.fieldLink RX2 7 "NearestclockModel" "eighths" "[I") (List.mem_of_getElem? (i := 1) rfl)) (fun _ h9 => h9) rfl dX2_bits_25 ?_
  refine lv_iload_n hx hb dX2_bits_28 rfl (lv_at hl 1 rfl) ?_
  refine va_iald hx hb hK hP 0 0 rfl rfl (by assumption) dX2_bits_29 ?_
  refine lv_aload_n hx hb dX2_bits_30 rfl (lv_at hl 0 rfl) ?_
  refine va_get (D := D) (ci := 4) (v := .ref m2) (C := RX2) (T := TX2) (N := 6) hx hb hts in_X2_bits_X2 hown hK hP 2 rfl rfl 2 (by decide) (hts (.fieldLink RX2 13 "NearestclockModel" "below" "[Z") (List.mem_of_getElem? (i := 2) rfl)) (fun _ h9 => h9) rfl dX2_bits_31 ?_
  refine lv_iload_n hx hb dX2_bits_34 rfl (lv_at hl 1 rfl) ?_
  refine va_zald hx hb hK hP 1 1 rfl rfl (by assumption) dX2_bits_35 ?_
  refine vp_callSl (va_Run.run (va_runS (As := [.int (hf i0.toNatClampNeg), .int (bf i0.toNatClampNeg)]) (rest := []) ⟨hx, hb, hml, hown, hts⟩ (c_X2_bitsOf l (hf i0.toNatClampNeg) (bf i0.toNatClampNeg) (gH _ (n_ix gp0))) (va_cwS 2 hts gX2_bits_X2_bitsOf rfl rfl rfl (by decide +kernel) ⟨Nat.le_of_ble_eq_true rfl, Nat.le_of_ble_eq_true rfl⟩) ⟨ny_blindT, fun U hU hW => ⟨rfl, trivial⟩⟩ rfl rfl hl.1 rfl (lv_room (Nat.le_of_ble_eq_true rfl)) dX2_bits_36 ⟨Nat.le_of_ble_eq_true rfl, Nat.le_of_ble_eq_true rfl⟩)) (fun r_36 hw_36 => ?_)
  have hw_36 : r_36 = f_bt (hf i0.toNatClampNeg) (bf i0.toNatClampNeg) := hw_36
  subst hw_36
  have hP9 := hP.sub (ws' := [(mo, .inr (4, [.int 0, .ref m1, .ref m2, .ref m3, .ref m4, .int mn])), (m1, .inl (cI, 12, .inl hf)), (m2, .inl (cZ, 12, .inl bf))]) [2, 0, 1] rfl
  have hD9 := hD.sub (ws' := [(mo, .inr (4, [.int 0, .ref m1, .ref m2, .ref m3, .ref m4, .int mn])), (m1, .inl (cI, 12, .inl hf)), (m2, .inl (cZ, 12, .inl bf))]) [2, 0, 1] (by decide) rfl
  exact W.lret (v := f_bt (hf i0.toNatClampNeg) (bf i0.toNatClampNeg)) hx hb hr (fun t ht hW => ⟨⟨f_bt (hf i0.toNatClampNeg) (bf i0.toNatClampNeg), (), rfl, (rfl), by rw [ht]; exact hP9, va_K.moved hW.alike hK, hD9⟩, hS.F ht⟩) hS.2.2 dX2_bits_39
set_option maxHeartbeats 4000000 in
set_option maxRecDepth 100000 in
theorem c_X2_bits_noP (l : Launch) (D : va_G) (cI : ClassId) (cZ : ClassId) (mo : Nat) (m1 : Nat) (m2 : Nat) (m3 : Nat) (m4 : Nat) (sz : Nat) (th : Int32) (mn : Int32) (hf : Nat → Int32) (bf : Nat → Int32) (i0 : Int32) (gp0 : ¬ vp_in i0 12) : Met l yX2_bits wsX2_bits ({ frames := 1, cells := 0, slots := 0, locals := 22 }) (va_Pc [.ref mo, .int i0] (ny_pre D [(cI, .int), (cZ, .boolean)] [(mo, .inr (4, [.int th, .ref m1, .ref m2, .ref m3, .ref m4, .int mn])), (m1, .inl (cI, 12, .inl hf)), (m2, .inl (cZ, 12, .inl bf))] sz)) (va_Ql (fun (r : Int64) (u : Unit) => r = 0) (fun (u : Unit) t => ny_at D [(cI, .int), (cZ, .boolean)] (va_A [(mo, .inr (4, [.int th, .ref m1, .ref m2, .ref m3, .ref m4, .int mn])), (m1, .inl (cI, 12, .inl hf)), (m2, .inl (cZ, 12, .inl bf))] sz) [(mo, .inr (4, [.int 1, .ref m1, .ref m2, .ref m3, .ref m4, .int mn])), (m1, .inl (cI, 12, .inl hf)), (m2, .inl (cZ, 12, .inl bf))] t) (va_A [(mo, .inr (4, [.int th, .ref m1, .ref m2, .ref m3, .ref m4, .int mn])), (m1, .inl (cI, 12, .inl hf)), (m2, .inl (cZ, 12, .inl bf))] sz)) 0 0 (va_A [(mo, .inr (4, [.int th, .ref m1, .ref m2, .ref m3, .ref m4, .int mn])), (m1, .inl (cI, 12, .inl hf)), (m2, .inl (cZ, 12, .inl bf))] sz) := by
  refine Met.ofW (cc := cX2_bits) (maxL := 2) (ret := (some .long)) (by decide) rfl ?_
  intro p e s m args below meth c s₁ B hml hv
  obtain ⟨rfl, hsz, hP, hK, hD0, hE⟩ := hv
  have hx := B.exec
  have hb := B.bytes
  have hr := B.returns
  have hts := atoms_spec (ws := wsX2_bits) B.pre
  have hown : s.vm.findClass RX2 = some m.cls := findClass_of_methodNamed B.named
  have hlocks := B.notSynchronized
  subst hsz
  have hD := hD0.self (sz := s.heap.size)
  generalize hAe : va_A [(mo, .inr (4, [.int th, .ref m1, .ref m2, .ref m3, .ref m4, .int mn])), (m1, .inl (cI, 12, .inl hf)), (m2, .inl (cZ, 12, .inl bf))] s.heap.size = A at hD hE ⊢
  have hA : ∀ q : Nat, s.heap.size ≤ q → A q := fun q h => by rw [← hAe]; exact Or.inr h
  have hS : va_S A s.heap s.heap [] := va_S.rf
  have hl := lv_entry ([.ref mo, .int i0]) (n := 2) (Nat.le_of_ble_eq_true rfl)
  rw [lg_entry_eq]
  generalize (lg_sl ([.ref mo, .int i0]) ++ List.replicate (2 - (lg_sl ([.ref mo, .int i0])).length) Slot.unset).toArray = ls at hl ⊢
  have hl : lv_has ls 2 [(0, .ref mo), (1, .int i0)] := hl
  refine lv_aload_n hx hb dX2_bits_0 rfl (lv_at hl 0 rfl) ?_
  refine lv_iload_n hx hb dX2_bits_1 rfl (lv_at hl 1 rfl) ?_
  refine vp_callSi (va_Run.run (va_runS (As := [.int i0]) (rest := [.ref mo]) ⟨hx, hb, hml, hown, hts⟩ (c_X2_isPlace_no l i0 (by assumption)) (va_cwS 1 hts gX2_bits_X2_isPlace rfl rfl rfl (by decide +kernel) ⟨Nat.le_of_ble_eq_true rfl, Nat.le_of_ble_eq_true rfl⟩) ⟨ny_blindT, fun U hU hW => ⟨rfl, trivial⟩⟩ rfl rfl hl.1 rfl (lv_room (Nat.le_of_ble_eq_true rfl)) dX2_bits_2 ⟨Nat.le_of_ble_eq_true rfl, Nat.le_of_ble_eq_true rfl⟩)) (fun r_2 hw_2 => ?_)
  have hw_2 : r_2 = 0 := hw_2
  subst hw_2
  refine lv_if_ne (tgt := 12) hx hb dX2_bits_5 (by decide) (fun c_5 => absurd (show (0 : Int32) = 0 by  decide) c_5) (fun c_5 => ?_)
  refine lv_iconst (v := 1) hx hb dX2_bits_8 (by decide) ?_
  refine lv_goto (tgt := 13) hx hb dX2_bits_9 (by decide) ?_
  refine lv_iconst (v := 1) hx hb dX2_bits_13 (by decide) ?_
  refine ny_i (wc := [(mo, .inr (4, [.int th, .ref m1, .ref m2, .ref m3, .ref m4, .int mn]))]) (wr := [(m1, .inl (cI, 12, .inl hf)), (m2, .inl (cZ, 12, .inl bf))]) hP hD hS hA [0] [1, 2] rfl rfl (by decide) (by decide) (va_runV (As := [.int 1, .int 1]) (rest := []) ⟨hx, hb, hml, hown, hts⟩ (c_X2_isThrown_1 l D mo m1 m2 m3 m4 s.heap.size th mn 1) (cwV 2 hts gX2_bits_X2_isThrown rfl rfl rfl (by decide +kernel) ⟨Nat.le_of_ble_eq_true rfl, Nat.le_of_ble_eq_true rfl⟩) ⟨ny_blind, va_recv hK hP (ci := 4) (q0 := 0) rfl rfl, fun U hU hW => ⟨rfl, ny_preU hE hP hK hD hS hA [0] rfl (by decide) rfl [] rfl U hU hW⟩⟩ rfl rfl hl.1 rfl (lv_room (Nat.le_of_ble_eq_true rfl)) dX2_bits_14 ⟨Nat.le_of_ble_eq_true rfl, Nat.le_of_ble_eq_true rfl⟩) (fun r_14 u H locs hw_14 hP hD hS => ?_)
  have hP : va_P D vwCl [(m1, .inl (cI, 12, .inl hf)), (m2, .inl (cZ, 12, .inl bf)), (mo, .inr (4, [.int 1, .ref m1, .ref m2, .ref m3, .ref m4, .int mn]))] H := hP
  have hD : va_D A [(m1, .inl (cI, 12, .inl hf)), (m2, .inl (cZ, 12, .inl bf)), (mo, .inr (4, [.int 1, .ref m1, .ref m2, .ref m3, .ref m4, .int mn]))] := hD
  have hw_14 : r_14 = 1 := hw_14
  subst hw_14
  refine lv_if_eq (tgt := 24) hx hb dX2_bits_17 (by decide) (fun c_17 => absurd c_17 (show ¬ ((1 : Int32) = 0) by  decide)) (fun c_17 => ?_)
  refine lv_lconst (v := 0) hx hb dX2_bits_20 (by decide) ?_
  refine lv_goto (tgt := 39) hx hb dX2_bits_21 (by decide) ?_
  have hP9 := hP.sub (ws' := [(mo, .inr (4, [.int 1, .ref m1, .ref m2, .ref m3, .ref m4, .int mn])), (m1, .inl (cI, 12, .inl hf)), (m2, .inl (cZ, 12, .inl bf))]) [2, 0, 1] rfl
  have hD9 := hD.sub (ws' := [(mo, .inr (4, [.int 1, .ref m1, .ref m2, .ref m3, .ref m4, .int mn])), (m1, .inl (cI, 12, .inl hf)), (m2, .inl (cZ, 12, .inl bf))]) [2, 0, 1] (by decide) rfl
  exact W.lret (v := 0) hx hb hr (fun t ht hW => ⟨⟨0, (), rfl, (rfl), by rw [ht]; exact hP9, va_K.moved hW.alike hK, hD9⟩, hS.F ht⟩) hS.2.2 dX2_bits_39
theorem in_X2_number_X2 : ∀ w ∈ wsX20, w ∈ wsX2_number := (fun _ h => List.mem_cons_of_mem _ (List.mem_append_left _ (List.mem_append_right _ h)))
set_option maxHeartbeats 4000000 in
set_option maxRecDepth 100000 in
theorem c_X2_number (l : Launch) (D : va_G) (cI : ClassId) (cZ : ClassId) (mo : Nat) (m1 : Nat) (m2 : Nat) (m3 : Nat) (m4 : Nat) (sz : Nat) (th : Int32) (mn : Int32) (hf : Nat → Int32) (bf : Nat → Int32) (i0 : Int32) (gp0 : vp_in i0 12) (gH : ny_H hf) : Met l yX2_number wsX2_number ({ frames := 1, cells := 0, slots := 0, locals := 22 }) (va_Pc [.ref mo, .int i0] (ny_pre D [(cI, .int), (cZ, .boolean)] [(mo, .inr (4, [.int th, .ref m1, .ref m2, .ref m3, .ref m4, .int mn])), (m1, .inl (cI, 12, .inl hf)), (m2, .inl (cZ, 12, .inl bf))] sz)) (va_Qd (fun (r : UInt64) (u : Unit) => r = f_num (hf i0.toNatClampNeg) (bf i0.toNatClampNeg)) (fun (u : Unit) t => ny_at D [(cI, .int), (cZ, .boolean)] (va_A [(mo, .inr (4, [.int th, .ref m1, .ref m2, .ref m3, .ref m4, .int mn])), (m1, .inl (cI, 12, .inl hf)), (m2, .inl (cZ, 12, .inl bf))] sz) [(mo, .inr (4, [.int 0, .ref m1, .ref m2, .ref m3, .ref m4, .int mn])), (m1, .inl (cI, 12, .inl hf)), (m2, .inl (cZ, 12, .inl bf))] t) (va_A [(mo, .inr (4, [.int th, .ref m1, .ref m2, .ref m3, .ref m4, .int mn])), (m1, .inl (cI, 12, .inl hf)), (m2, .inl (cZ, 12, .inl bf))] sz)) 0 0 (va_A [(mo, .inr (4, [.int th, .ref m1, .ref m2, .ref m3, .ref m4, .int mn])), (m1, .inl (cI, 12, .inl hf)), (m2, .inl (cZ, 12, .inl bf))] sz) := by
  refine Met.ofW (cc := cX2_number) (maxL := 2) (ret := (some .double)) (by decide) rfl ?_
  intro p e s m args below meth c s₁ B hml hv
  obtain ⟨rfl, hsz, hP, hK, hD0, hE⟩ := hv
  have hx := B.exec
  have hb := B.bytes
  have hr := B.returns
  have hts := atoms_spec (ws := wsX2_number) B.pre
  have hown : s.vm.findClass RX2 = some m.cls := findClass_of_methodNamed B.named
  have hlocks := B.notSynchronized
  subst hsz
  have hD := hD0.self (sz := s.heap.size)
  generalize hAe : va_A [(mo, .inr (4, [.int th, .ref m1, .ref m2, .ref m3, .ref m4, .int mn])), (m1, .inl (cI, 12, .inl hf)), (m2, .inl (cZ, 12, .inl bf))] s.heap.size = A at hD hE ⊢
  have hA : ∀ q : Nat, s.heap.size ≤ q → A q := fun q h => by rw [← hAe]; exact Or.inr h
  have hS : va_S A s.heap s.heap [] := va_S.rf
  have hl := lv_entry ([.ref mo, .int i0]) (n := 2) (Nat.le_of_ble_eq_true rfl)
  rw [lg_entry_eq]
  generalize (lg_sl ([.ref mo, .int i0]) ++ List.replicate (2 - (lg_sl ([.ref mo, .int i0])).length) Slot.unset).toArray = ls at hl ⊢
  have hl : lv_has ls 2 [(0, .ref mo), (1, .int i0)] := hl
  refine lv_aload_n hx hb dX2_number_0 rfl (lv_at hl 0 rfl) ?_
  refine lv_iload_n hx hb dX2_number_1 rfl (lv_at hl 1 rfl) ?_
  refine vp_callSi (va_Run.run (va_runS (As := [.int i0]) (rest := [.ref mo]) ⟨hx, hb, hml, hown, hts⟩ (c_X2_isPlace l i0 (by assumption)) (va_cwS 1 hts gX2_number_X2_isPlace rfl rfl rfl (by decide +kernel) ⟨Nat.le_of_ble_eq_true rfl, Nat.le_of_ble_eq_true rfl⟩) ⟨ny_blindT, fun U hU hW => ⟨rfl, trivial⟩⟩ rfl rfl hl.1 rfl (lv_room (Nat.le_of_ble_eq_true rfl)) dX2_number_2 ⟨Nat.le_of_ble_eq_true rfl, Nat.le_of_ble_eq_true rfl⟩)) (fun r_2 hw_2 => ?_)
  have hw_2 : r_2 = 1 := hw_2
  subst hw_2
  refine lv_if_ne (tgt := 12) hx hb dX2_number_5 (by decide) (fun c_5 => ?_) (fun c_5 => absurd c_5 (show ¬ ((1 : Int32) = 0) by  decide))
  refine lv_iconst (v := 0) hx hb dX2_number_12 (by decide) ?_
  refine lv_iconst (v := 1) hx hb dX2_number_13 (by decide) ?_
  refine ny_i (wc := [(mo, .inr (4, [.int th, .ref m1, .ref m2, .ref m3, .ref m4, .int mn]))]) (wr := [(m1, .inl (cI, 12, .inl hf)), (m2, .inl (cZ, 12, .inl bf))]) hP hD hS hA [0] [1, 2] rfl rfl (by decide) (by decide) (va_runV (As := [.int 0, .int 1]) (rest := []) ⟨hx, hb, hml, hown, hts⟩ (c_X2_isThrown_0 l D mo m1 m2 m3 m4 s.heap.size th mn 1) (cwV 2 hts gX2_number_X2_isThrown rfl rfl rfl (by decide +kernel) ⟨Nat.le_of_ble_eq_true rfl, Nat.le_of_ble_eq_true rfl⟩) ⟨ny_blind, va_recv hK hP (ci := 4) (q0 := 0) rfl rfl, fun U hU hW => ⟨rfl, ny_preU hE hP hK hD hS hA [0] rfl (by decide) rfl [] rfl U hU hW⟩⟩ rfl rfl hl.1 rfl (lv_room (Nat.le_of_ble_eq_true rfl)) dX2_number_14 ⟨Nat.le_of_ble_eq_true rfl, Nat.le_of_ble_eq_true rfl⟩) (fun r_14 u H locs hw_14 hP hD hS => ?_)
  have hP : va_P D vwCl [(m1, .inl (cI, 12, .inl hf)), (m2, .inl (cZ, 12, .inl bf)), (mo, .inr (4, [.int 0, .ref m1, .ref m2, .ref m3, .ref m4, .int mn]))] H := hP
  have hD : va_D A [(m1, .inl (cI, 12, .inl hf)), (m2, .inl (cZ, 12, .inl bf)), (mo, .inr (4, [.int 0, .ref m1, .ref m2, .ref m3, .ref m4, .int mn]))] := hD
  have hw_14 : r_14 = 0 := hw_14
  subst hw_14
  refine lv_if_eq (tgt := 22) hx hb dX2_number_17 (by decide) (fun c_17 => ?_) (fun c_17 => absurd (show (0 : Int32) = 0 by  decide) c_17)
  refine lv_aload_n hx hb dX2_number_22 rfl (lv_at hl 0 rfl) ?_
  refine va_get (D := D) (ci := 4) (v := .ref m2) (C := RX2) (T := TX2) (N := 6) hx hb hts in_X2_number_X2 hown hK hP 2 rfl rfl 2 (by decide) (hts (.fieldLink RX2 13 "NearestclockModel" "below" "[Z") (List.mem_of_getElem? (i := 1) rfl)) (fun _ h9 => h9) rfl dX2_number_23 ?_
  refine lv_iload_n hx hb dX2_number_26 rfl (lv_at hl 1 rfl) ?_
  refine va_zald hx hb hK hP 1 1 rfl rfl (by assumption) dX2_number_27 ?_
  refine lv_if_eq (tgt := 37) hx hb dX2_number_28 (by decide) (fun c_28 => ?_) (fun c_28 => ?_)
  · refine lv_aload_n hx hb dX2_number_37 rfl (lv_at hl 0 rfl) ?_
    refine va_get (D := D) (ci := 4) (v := .ref m1) (C := RX2) (T := TX2) (N := 6) hx hb hts in_X2_number_X2 hown hK hP 2 rfl rfl 1 (by decide) (hts (.fieldLink RX2 7 "NearestclockModel" "eighths" "[I") (List.mem_of_getElem? (i := 3) rfl)) (fun _ h9 => h9) rfl dX2_number_38 ?_
    refine lv_iload_n hx hb dX2_number_41 rfl (lv_at hl 1 rfl) ?_
    refine va_iald hx hb hK hP 0 0 rfl rfl (by assumption) dX2_number_42 ?_
    refine lv_i2d hx hb dX2_number_43 ?_
    refine lv_ldc2d (own := RX2) (v := 4620693217682128896) hx hb hown (hts (.constantDouble RX2 55 (4620693217682128896)) (List.mem_of_getElem? (i := 4) rfl)) dX2_number_44 ?_
    refine lv_ddiv hx hb dX2_number_47 (n_num (gH _ (n_ix gp0))) ?_
    have hP9 := hP.sub (ws' := [(mo, .inr (4, [.int 0, .ref m1, .ref m2, .ref m3, .ref m4, .int mn])), (m1, .inl (cI, 12, .inl hf)), (m2, .inl (cZ, 12, .inl bf))]) [2, 0, 1] rfl
    have hD9 := hD.sub (ws' := [(mo, .inr (4, [.int 0, .ref m1, .ref m2, .ref m3, .ref m4, .int mn])), (m1, .inl (cI, 12, .inl hf)), (m2, .inl (cZ, 12, .inl bf))]) [2, 0, 1] (by decide) rfl
    exact W.dret (v := FP.ddiv (FP.i2d (hf i0.toNatClampNeg)) 4620693217682128896) hx hb hr (fun t ht hW => ⟨⟨FP.ddiv (FP.i2d (hf i0.toNatClampNeg)) 4620693217682128896, (), rfl, (if_pos c_28).symm, by rw [ht]; exact hP9, va_K.moved hW.alike hK, hD9⟩, hS.F ht⟩) hS.2.2 dX2_number_48
  · refine lv_ldc2d (own := RX2) (v := 9223372036854775808) hx hb hown (hts (.constantDouble RX2 53 (9223372036854775808)) (List.mem_of_getElem? (i := 2) rfl)) dX2_number_31 ?_
    refine lv_goto (tgt := 48) hx hb dX2_number_34 (by decide) ?_
    have hP9 := hP.sub (ws' := [(mo, .inr (4, [.int 0, .ref m1, .ref m2, .ref m3, .ref m4, .int mn])), (m1, .inl (cI, 12, .inl hf)), (m2, .inl (cZ, 12, .inl bf))]) [2, 0, 1] rfl
    have hD9 := hD.sub (ws' := [(mo, .inr (4, [.int 0, .ref m1, .ref m2, .ref m3, .ref m4, .int mn])), (m1, .inl (cI, 12, .inl hf)), (m2, .inl (cZ, 12, .inl bf))]) [2, 0, 1] (by decide) rfl
    exact W.dret (v := 9223372036854775808) hx hb hr (fun t ht hW => ⟨⟨9223372036854775808, (), rfl, (if_neg c_28).symm, by rw [ht]; exact hP9, va_K.moved hW.alike hK, hD9⟩, hS.F ht⟩) hS.2.2 dX2_number_48
set_option maxHeartbeats 4000000 in
set_option maxRecDepth 100000 in
theorem c_X2_number_noP (l : Launch) (D : va_G) (cI : ClassId) (cZ : ClassId) (mo : Nat) (m1 : Nat) (m2 : Nat) (m3 : Nat) (m4 : Nat) (sz : Nat) (th : Int32) (mn : Int32) (hf : Nat → Int32) (bf : Nat → Int32) (i0 : Int32) (gp0 : ¬ vp_in i0 12) : Met l yX2_number wsX2_number ({ frames := 1, cells := 0, slots := 0, locals := 22 }) (va_Pc [.ref mo, .int i0] (ny_pre D [(cI, .int), (cZ, .boolean)] [(mo, .inr (4, [.int th, .ref m1, .ref m2, .ref m3, .ref m4, .int mn])), (m1, .inl (cI, 12, .inl hf)), (m2, .inl (cZ, 12, .inl bf))] sz)) (va_Qd (fun (r : UInt64) (u : Unit) => r = 0) (fun (u : Unit) t => ny_at D [(cI, .int), (cZ, .boolean)] (va_A [(mo, .inr (4, [.int th, .ref m1, .ref m2, .ref m3, .ref m4, .int mn])), (m1, .inl (cI, 12, .inl hf)), (m2, .inl (cZ, 12, .inl bf))] sz) [(mo, .inr (4, [.int 1, .ref m1, .ref m2, .ref m3, .ref m4, .int mn])), (m1, .inl (cI, 12, .inl hf)), (m2, .inl (cZ, 12, .inl bf))] t) (va_A [(mo, .inr (4, [.int th, .ref m1, .ref m2, .ref m3, .ref m4, .int mn])), (m1, .inl (cI, 12, .inl hf)), (m2, .inl (cZ, 12, .inl bf))] sz)) 0 0 (va_A [(mo, .inr (4, [.int th, .ref m1, .ref m2, .ref m3, .ref m4, .int mn])), (m1, .inl (cI, 12, .inl hf)), (m2, .inl (cZ, 12, .inl bf))] sz) := by
  refine Met.ofW (cc := cX2_number) (maxL := 2) (ret := (some .double)) (by decide) rfl ?_
  intro p e s m args below meth c s₁ B hml hv
  obtain ⟨rfl, hsz, hP, hK, hD0, hE⟩ := hv
  have hx := B.exec
  have hb := B.bytes
  have hr := B.returns
  have hts := atoms_spec (ws := wsX2_number) B.pre
  have hown : s.vm.findClass RX2 = some m.cls := findClass_of_methodNamed B.named
  have hlocks := B.notSynchronized
  subst hsz
  have hD := hD0.self (sz := s.heap.size)
  generalize hAe : va_A [(mo, .inr (4, [.int th, .ref m1, .ref m2, .ref m3, .ref m4, .int mn])), (m1, .inl (cI, 12, .inl hf)), (m2, .inl (cZ, 12, .inl bf))] s.heap.size = A at hD hE ⊢
  have hA : ∀ q : Nat, s.heap.size ≤ q → A q := fun q h => by rw [← hAe]; exact Or.inr h
  have hS : va_S A s.heap s.heap [] := va_S.rf
  have hl := lv_entry ([.ref mo, .int i0]) (n := 2) (Nat.le_of_ble_eq_true rfl)
  rw [lg_entry_eq]
  generalize (lg_sl ([.ref mo, .int i0]) ++ List.replicate (2 - (lg_sl ([.ref mo, .int i0])).length) Slot.unset).toArray = ls at hl ⊢
  have hl : lv_has ls 2 [(0, .ref mo), (1, .int i0)] := hl
  refine lv_aload_n hx hb dX2_number_0 rfl (lv_at hl 0 rfl) ?_
  refine lv_iload_n hx hb dX2_number_1 rfl (lv_at hl 1 rfl) ?_
  refine vp_callSi (va_Run.run (va_runS (As := [.int i0]) (rest := [.ref mo]) ⟨hx, hb, hml, hown, hts⟩ (c_X2_isPlace_no l i0 (by assumption)) (va_cwS 1 hts gX2_number_X2_isPlace rfl rfl rfl (by decide +kernel) ⟨Nat.le_of_ble_eq_true rfl, Nat.le_of_ble_eq_true rfl⟩) ⟨ny_blindT, fun U hU hW => ⟨rfl, trivial⟩⟩ rfl rfl hl.1 rfl (lv_room (Nat.le_of_ble_eq_true rfl)) dX2_number_2 ⟨Nat.le_of_ble_eq_true rfl, Nat.le_of_ble_eq_true rfl⟩)) (fun r_2 hw_2 => ?_)
  have hw_2 : r_2 = 0 := hw_2
  subst hw_2
  refine lv_if_ne (tgt := 12) hx hb dX2_number_5 (by decide) (fun c_5 => absurd (show (0 : Int32) = 0 by  decide) c_5) (fun c_5 => ?_)
  refine lv_iconst (v := 1) hx hb dX2_number_8 (by decide) ?_
  refine lv_goto (tgt := 13) hx hb dX2_number_9 (by decide) ?_
  refine lv_iconst (v := 1) hx hb dX2_number_13 (by decide) ?_
  refine ny_i (wc := [(mo, .inr (4, [.int th, .ref m1, .ref m2, .ref m3, .ref m4, .int mn]))]) (wr := [(m1, .inl (cI, 12, .inl hf)), (m2, .inl (cZ, 12, .inl bf))]) hP hD hS hA [0] [1, 2] rfl rfl (by decide) (by decide) (va_runV (As := [.int 1, .int 1]) (rest := []) ⟨hx, hb, hml, hown, hts⟩ (c_X2_isThrown_1 l D mo m1 m2 m3 m4 s.heap.size th mn 1) (cwV 2 hts gX2_number_X2_isThrown rfl rfl rfl (by decide +kernel) ⟨Nat.le_of_ble_eq_true rfl, Nat.le_of_ble_eq_true rfl⟩) ⟨ny_blind, va_recv hK hP (ci := 4) (q0 := 0) rfl rfl, fun U hU hW => ⟨rfl, ny_preU hE hP hK hD hS hA [0] rfl (by decide) rfl [] rfl U hU hW⟩⟩ rfl rfl hl.1 rfl (lv_room (Nat.le_of_ble_eq_true rfl)) dX2_number_14 ⟨Nat.le_of_ble_eq_true rfl, Nat.le_of_ble_eq_true rfl⟩) (fun r_14 u H locs hw_14 hP hD hS => ?_)
  have hP : va_P D vwCl [(m1, .inl (cI, 12, .inl hf)), (m2, .inl (cZ, 12, .inl bf)), (mo, .inr (4, [.int 1, .ref m1, .ref m2, .ref m3, .ref m4, .int mn]))] H := hP
  have hD : va_D A [(m1, .inl (cI, 12, .inl hf)), (m2, .inl (cZ, 12, .inl bf)), (mo, .inr (4, [.int 1, .ref m1, .ref m2, .ref m3, .ref m4, .int mn]))] := hD
  have hw_14 : r_14 = 1 := hw_14
  subst hw_14
  refine lv_if_eq (tgt := 22) hx hb dX2_number_17 (by decide) (fun c_17 => absurd c_17 (show ¬ ((1 : Int32) = 0) by  decide)) (fun c_17 => ?_)
  refine lv_dconst0 hx hb dX2_number_20 ?_
  have hP9 := hP.sub (ws' := [(mo, .inr (4, [.int 1, .ref m1, .ref m2, .ref m3, .ref m4, .int mn])), (m1, .inl (cI, 12, .inl hf)), (m2, .inl (cZ, 12, .inl bf))]) [2, 0, 1] rfl
  have hD9 := hD.sub (ws' := [(mo, .inr (4, [.int 1, .ref m1, .ref m2, .ref m3, .ref m4, .int mn])), (m1, .inl (cI, 12, .inl hf)), (m2, .inl (cZ, 12, .inl bf))]) [2, 0, 1] (by decide) rfl
  exact W.dret (v := 0) hx hb hr (fun t ht hW => ⟨⟨0, (), rfl, (rfl), by rw [ht]; exact hP9, va_K.moved hW.alike hK, hD9⟩, hS.F ht⟩) hS.2.2 dX2_number_21
theorem in_X2_left_X2 : ∀ w ∈ wsX20, w ∈ wsX2_left := (fun _ h => List.mem_cons_of_mem _ (List.mem_append_left _ (List.mem_append_right _ h)))
set_option maxHeartbeats 4000000 in
set_option maxRecDepth 100000 in
theorem c_X2_left (l : Launch) (D : va_G) (cI : ClassId) (mo : Nat) (m1 : Nat) (m2 : Nat) (m3 : Nat) (m4 : Nat) (sz : Nat) (th : Int32) (mn : Int32) (hf : Nat → Int32) (i0 : Int32) (i1 : Int32) (gp0 : vp_in i0 12) (gp1 : vp_in i1 12) (g0 : ¬ hf i1.toNatClampNeg = 0) (gH : ny_H hf) : Met l yX2_left wsX2_left ({ frames := 2, cells := 0, slots := 0, locals := 45 }) (va_Pc [.ref mo, .int i0, .int i1] (ny_pre D [(cI, .int)] [(mo, .inr (4, [.int th, .ref m1, .ref m2, .ref m3, .ref m4, .int mn])), (m1, .inl (cI, 12, .inl hf))] sz)) (vp_Si (fun r => r = f_re (hf i0.toNatClampNeg) (hf i1.toNatClampNeg))) 0 0 (fun _ => False) := by
  refine Met.ofW (cc := cX2_left) (maxL := 3) (ret := (some .int)) (by decide) rfl ?_
  intro p e s m args below meth c s₁ B hml hv
  obtain ⟨rfl, hsz, hP, hK, hD0, hE⟩ := hv
  have hx := B.exec
  have hb := B.bytes
  have hr := B.returns
  have hts := atoms_spec (ws := wsX2_left) B.pre
  have hown : s.vm.findClass RX2 = some m.cls := findClass_of_methodNamed B.named
  have hlocks := B.notSynchronized
  subst hsz
  have hD := hD0.self (sz := s.heap.size)
  generalize hAe : va_A [(mo, .inr (4, [.int th, .ref m1, .ref m2, .ref m3, .ref m4, .int mn])), (m1, .inl (cI, 12, .inl hf))] s.heap.size = A at hD hE
  have hA : ∀ q : Nat, s.heap.size ≤ q → A q := fun q h => by rw [← hAe]; exact Or.inr h
  have hS : va_S A s.heap s.heap [] := va_S.rf
  have hl := lv_entry ([.ref mo, .int i0, .int i1]) (n := 3) (Nat.le_of_ble_eq_true rfl)
  rw [lg_entry_eq]
  generalize (lg_sl ([.ref mo, .int i0, .int i1]) ++ List.replicate (3 - (lg_sl ([.ref mo, .int i0, .int i1])).length) Slot.unset).toArray = ls at hl ⊢
  have hl : lv_has ls 3 [(0, .ref mo), (1, .int i0), (2, .int i1)] := hl
  refine lv_aload_n hx hb dX2_left_0 rfl (lv_at hl 0 rfl) ?_
  refine va_get (D := D) (ci := 4) (v := .ref m1) (C := RX2) (T := TX2) (N := 6) hx hb hts in_X2_left_X2 hown hK hP 0 rfl rfl 1 (by decide) (hts (.fieldLink RX2 7 "NearestclockModel" "eighths" "[I") (List.mem_of_getElem? (i := 1) rfl)) (fun _ h9 => h9) rfl dX2_left_1 ?_
  refine lv_iload_n hx hb dX2_left_4 rfl (lv_at hl 1 rfl) ?_
  refine va_iald hx hb hK hP 1 0 rfl rfl (by assumption) dX2_left_5 ?_
  refine lv_aload_n hx hb dX2_left_6 rfl (lv_at hl 0 rfl) ?_
  refine va_get (D := D) (ci := 4) (v := .ref m1) (C := RX2) (T := TX2) (N := 6) hx hb hts in_X2_left_X2 hown hK hP 0 rfl rfl 1 (by decide) (hts (.fieldLink RX2 7 "NearestclockModel" "eighths" "[I") (List.mem_of_getElem? (i := 1) rfl)) (fun _ h9 => h9) rfl dX2_left_7 ?_
  refine lv_iload_n hx hb dX2_left_10 rfl (lv_at hl 1 rfl) ?_
  refine va_iald hx hb hK hP 1 0 rfl rfl (by assumption) dX2_left_11 ?_
  refine lv_aload_n hx hb dX2_left_12 rfl (lv_at hl 0 rfl) ?_
  refine va_get (D := D) (ci := 4) (v := .ref m1) (C := RX2) (T := TX2) (N := 6) hx hb hts in_X2_left_X2 hown hK hP 0 rfl rfl 1 (by decide) (hts (.fieldLink RX2 7 "NearestclockModel" "eighths" "[I") (List.mem_of_getElem? (i := 1) rfl)) (fun _ h9 => h9) rfl dX2_left_13 ?_
  refine lv_iload_n hx hb dX2_left_16 rfl (lv_at hl 2 rfl) ?_
  refine va_iald hx hb hK hP 1 0 rfl rfl (by assumption) dX2_left_17 ?_
  refine vp_callSi (va_Run.run (va_runS (As := [.int (hf i0.toNatClampNeg), .int (hf i1.toNatClampNeg)]) (rest := [.int (hf i0.toNatClampNeg)]) ⟨hx, hb, hml, hown, hts⟩ (c_X2_nearest l (hf i0.toNatClampNeg) (hf i1.toNatClampNeg) (gH _ (n_ix gp0)) (gH _ (n_ix gp1)) (by assumption)) (va_cwS 2 hts gX2_left_X2_nearest rfl rfl rfl (by decide +kernel) ⟨Nat.le_of_ble_eq_true rfl, Nat.le_of_ble_eq_true rfl⟩) ⟨ny_blindT, fun U hU hW => ⟨rfl, trivial⟩⟩ rfl rfl hl.1 rfl (lv_room (Nat.le_of_ble_eq_true rfl)) dX2_left_18 ⟨Nat.le_of_ble_eq_true rfl, Nat.le_of_ble_eq_true rfl⟩)) (fun r_18 hw_18 => ?_)
  have hw_18 : r_18 = f_nr (hf i0.toNatClampNeg) (hf i1.toNatClampNeg) := hw_18
  subst hw_18
  refine lv_aload_n hx hb dX2_left_21 rfl (lv_at hl 0 rfl) ?_
  refine va_get (D := D) (ci := 4) (v := .ref m1) (C := RX2) (T := TX2) (N := 6) hx hb hts in_X2_left_X2 hown hK hP 0 rfl rfl 1 (by decide) (hts (.fieldLink RX2 7 "NearestclockModel" "eighths" "[I") (List.mem_of_getElem? (i := 1) rfl)) (fun _ h9 => h9) rfl dX2_left_22 ?_
  refine lv_iload_n hx hb dX2_left_25 rfl (lv_at hl 2 rfl) ?_
  refine va_iald hx hb hK hP 1 0 rfl rfl (by assumption) dX2_left_26 ?_
  refine lv_imul hx hb dX2_left_27 ?_
  refine lv_isub hx hb dX2_left_28 ?_
  exact W.iret (v := (hf i0.toNatClampNeg) - ((f_nr (hf i0.toNatClampNeg) (hf i1.toNatClampNeg)) * (hf i1.toNatClampNeg))) hx hb hr (fun t ht hW => ⟨(hf i0.toNatClampNeg) - ((f_nr (hf i0.toNatClampNeg) (hf i1.toNatClampNeg)) * (hf i1.toNatClampNeg)), rfl, (n_re (gH _ (n_ix gp0)) (gH _ (n_ix gp1)) g0), ht⟩) (fun q hq => absurd hq List.not_mem_nil) dX2_left_29
theorem in_X2_isUnder_X2 : ∀ w ∈ wsX20, w ∈ wsX2_isUnder := (fun _ h => List.mem_cons_of_mem _ (List.mem_append_left _ (List.mem_append_right _ h)))
set_option maxHeartbeats 4000000 in
set_option maxRecDepth 100000 in
theorem c_X2_isUnder (l : Launch) (D : va_G) (cI : ClassId) (cZ : ClassId) (mo : Nat) (m1 : Nat) (m2 : Nat) (m3 : Nat) (m4 : Nat) (sz : Nat) (th : Int32) (mn : Int32) (hf : Nat → Int32) (bf : Nat → Int32) (i0 : Int32) (gp0 : vp_in i0 12) (gB : ny_BB bf) : Met l yX2_isUnder wsX2_isUnder ({ frames := 0, cells := 0, slots := 0, locals := 0 }) (va_Pc [.ref mo, .int i0] (ny_pre D [(cI, .int), (cZ, .boolean)] [(mo, .inr (4, [.int th, .ref m1, .ref m2, .ref m3, .ref m4, .int mn])), (m1, .inl (cI, 12, .inl hf)), (m2, .inl (cZ, 12, .inl bf))] sz)) (vp_Si (fun r => r = f_un (hf i0.toNatClampNeg) (bf i0.toNatClampNeg))) 0 0 (fun _ => False) := by
  refine Met.ofW (cc := cX2_isUnder) (maxL := 2) (ret := (some .boolean)) (by decide) rfl ?_
  intro p e s m args below meth c s₁ B hml hv
  obtain ⟨rfl, hsz, hP, hK, hD0, hE⟩ := hv
  have hx := B.exec
  have hb := B.bytes
  have hr := B.returns
  have hts := atoms_spec (ws := wsX2_isUnder) B.pre
  have hown : s.vm.findClass RX2 = some m.cls := findClass_of_methodNamed B.named
  have hlocks := B.notSynchronized
  subst hsz
  have hD := hD0.self (sz := s.heap.size)
  generalize hAe : va_A [(mo, .inr (4, [.int th, .ref m1, .ref m2, .ref m3, .ref m4, .int mn])), (m1, .inl (cI, 12, .inl hf)), (m2, .inl (cZ, 12, .inl bf))] s.heap.size = A at hD hE
  have hA : ∀ q : Nat, s.heap.size ≤ q → A q := fun q h => by rw [← hAe]; exact Or.inr h
  have hS : va_S A s.heap s.heap [] := va_S.rf
  have hl := lv_entry ([.ref mo, .int i0]) (n := 2) (Nat.le_of_ble_eq_true rfl)
  rw [lg_entry_eq]
  generalize (lg_sl ([.ref mo, .int i0]) ++ List.replicate (2 - (lg_sl ([.ref mo, .int i0])).length) Slot.unset).toArray = ls at hl ⊢
  have hl : lv_has ls 2 [(0, .ref mo), (1, .int i0)] := hl
  refine lv_aload_n hx hb dX2_isUnder_0 rfl (lv_at hl 0 rfl) ?_
  refine va_get (D := D) (ci := 4) (v := .ref m1) (C := RX2) (T := TX2) (N := 6) hx hb hts in_X2_isUnder_X2 hown hK hP 0 rfl rfl 1 (by decide) (hts (.fieldLink RX2 7 "NearestclockModel" "eighths" "[I") (List.mem_of_getElem? (i := 1) rfl)) (fun _ h9 => h9) rfl dX2_isUnder_1 ?_
  refine lv_iload_n hx hb dX2_isUnder_4 rfl (lv_at hl 1 rfl) ?_
  refine va_iald hx hb hK hP 1 0 rfl rfl (by assumption) dX2_isUnder_5 ?_
  refine lv_if_lt (tgt := 18) hx hb dX2_isUnder_6 (by decide) (fun c_6 => ?_) (fun c_6 => ?_)
  · refine lv_iconst (v := 1) hx hb dX2_isUnder_18 (by decide) ?_
    refine lv_goto (tgt := 23) hx hb dX2_isUnder_19 (by decide) ?_
    exact W.zret (v := 1) hx hb hr (by decide) (fun t ht hW => ⟨1, rfl, (n_un1 c_6), ht⟩) (fun q hq => absurd hq List.not_mem_nil) dX2_isUnder_23
  · refine lv_aload_n hx hb dX2_isUnder_9 rfl (lv_at hl 0 rfl) ?_
    refine va_get (D := D) (ci := 4) (v := .ref m2) (C := RX2) (T := TX2) (N := 6) hx hb hts in_X2_isUnder_X2 hown hK hP 0 rfl rfl 2 (by decide) (hts (.fieldLink RX2 13 "NearestclockModel" "below" "[Z") (List.mem_of_getElem? (i := 2) rfl)) (fun _ h9 => h9) rfl dX2_isUnder_10 ?_
    refine lv_iload_n hx hb dX2_isUnder_13 rfl (lv_at hl 1 rfl) ?_
    refine va_zald hx hb hK hP 2 1 rfl rfl (by assumption) dX2_isUnder_14 ?_
    refine lv_if_eq (tgt := 22) hx hb dX2_isUnder_15 (by decide) (fun c_15 => ?_) (fun c_15 => ?_)
    · refine lv_iconst (v := 0) hx hb dX2_isUnder_22 (by decide) ?_
      exact W.zret (v := 0) hx hb hr (by decide) (fun t ht hW => ⟨0, rfl, (n_un3 c_6 c_15), ht⟩) (fun q hq => absurd hq List.not_mem_nil) dX2_isUnder_23
    · refine lv_iconst (v := 1) hx hb dX2_isUnder_18 (by decide) ?_
      refine lv_goto (tgt := 23) hx hb dX2_isUnder_19 (by decide) ?_
      exact W.zret (v := 1) hx hb hr (by decide) (fun t ht hW => ⟨1, rfl, (n_un2 (gB _ (n_ix gp0)) c_6 c_15), ht⟩) (fun q hq => absurd hq List.not_mem_nil) dX2_isUnder_23
theorem in_X2_cutOf_X2 : ∀ w ∈ wsX20, w ∈ wsX2_cutOf := (fun _ h => List.mem_cons_of_mem _ (List.mem_append_left _ (List.mem_append_right _ h)))
set_option maxHeartbeats 4000000 in
set_option maxRecDepth 100000 in
theorem c_X2_cutOf (l : Launch) (D : va_G) (cI : ClassId) (mo : Nat) (m1 : Nat) (m2 : Nat) (m3 : Nat) (m4 : Nat) (sz : Nat) (th : Int32) (mn : Int32) (hf : Nat → Int32) (i0 : Int32) (i1 : Int32) (gp0 : vp_in i0 12) (gp1 : vp_in i1 12) (g0 : ¬ hf i1.toNatClampNeg = 0) (gH : ny_H hf) : Met l yX2_cutOf wsX2_cutOf ({ frames := 1, cells := 0, slots := 0, locals := 20 }) (va_Pc [.ref mo, .int i0, .int i1] (ny_pre D [(cI, .int)] [(mo, .inr (4, [.int th, .ref m1, .ref m2, .ref m3, .ref m4, .int mn])), (m1, .inl (cI, 12, .inl hf))] sz)) (vp_Si (fun r => r = f_cu (hf i0.toNatClampNeg) (hf i1.toNatClampNeg))) 0 0 (fun _ => False) := by
  refine Met.ofW (cc := cX2_cutOf) (maxL := 4) (ret := (some .int)) (by decide) rfl ?_
  intro p e s m args below meth c s₁ B hml hv
  obtain ⟨rfl, hsz, hP, hK, hD0, hE⟩ := hv
  have hx := B.exec
  have hb := B.bytes
  have hr := B.returns
  have hts := atoms_spec (ws := wsX2_cutOf) B.pre
  have hown : s.vm.findClass RX2 = some m.cls := findClass_of_methodNamed B.named
  have hlocks := B.notSynchronized
  subst hsz
  have hD := hD0.self (sz := s.heap.size)
  generalize hAe : va_A [(mo, .inr (4, [.int th, .ref m1, .ref m2, .ref m3, .ref m4, .int mn])), (m1, .inl (cI, 12, .inl hf))] s.heap.size = A at hD hE
  have hA : ∀ q : Nat, s.heap.size ≤ q → A q := fun q h => by rw [← hAe]; exact Or.inr h
  have hS : va_S A s.heap s.heap [] := va_S.rf
  have hl := lv_entry ([.ref mo, .int i0, .int i1]) (n := 4) (Nat.le_of_ble_eq_true rfl)
  rw [lg_entry_eq]
  generalize (lg_sl ([.ref mo, .int i0, .int i1]) ++ List.replicate (4 - (lg_sl ([.ref mo, .int i0, .int i1])).length) Slot.unset).toArray = ls at hl ⊢
  have hl : lv_has ls 4 [(0, .ref mo), (1, .int i0), (2, .int i1)] := hl
  refine lv_aload_n hx hb dX2_cutOf_0 rfl (lv_at hl 0 rfl) ?_
  refine va_get (D := D) (ci := 4) (v := .ref m1) (C := RX2) (T := TX2) (N := 6) hx hb hts in_X2_cutOf_X2 hown hK hP 0 rfl rfl 1 (by decide) (hts (.fieldLink RX2 7 "NearestclockModel" "eighths" "[I") (List.mem_of_getElem? (i := 1) rfl)) (fun _ h9 => h9) rfl dX2_cutOf_1 ?_
  refine lv_iload_n hx hb dX2_cutOf_4 rfl (lv_at hl 1 rfl) ?_
  refine va_iald hx hb hK hP 1 0 rfl rfl (by assumption) dX2_cutOf_5 ?_
  refine vp_callSi (va_Run.run (va_runS (As := [.int (hf i0.toNatClampNeg)]) (rest := []) ⟨hx, hb, hml, hown, hts⟩ (c_X2_size l (hf i0.toNatClampNeg)) (va_cwS 1 hts gX2_cutOf_X2_size rfl rfl rfl (by decide +kernel) ⟨Nat.le_of_ble_eq_true rfl, Nat.le_of_ble_eq_true rfl⟩) ⟨ny_blindT, fun U hU hW => ⟨rfl, trivial⟩⟩ rfl rfl hl.1 rfl (lv_room (Nat.le_of_ble_eq_true rfl)) dX2_cutOf_6 ⟨Nat.le_of_ble_eq_true rfl, Nat.le_of_ble_eq_true rfl⟩)) (fun r_6 hw_6 => ?_)
  have hw_6 : r_6 = ny_ab (hf i0.toNatClampNeg) := hw_6
  subst hw_6
  refine ny_ti (x2 := nI (hf i0.toNatClampNeg).toInt.natAbs) (n_abN (gH _ (n_ix gp0))) ?_
  refine lv_istore_n (lv' := [(3, .int (nI (hf i0.toNatClampNeg).toInt.natAbs)), (0, .ref mo), (1, .int i0), (2, .int i1)]) hx hb dX2_cutOf_9 rfl hl (by decide) rfl (fun ls hl => ?_)
  refine ny_lp 10 4 (fun u : Nat => u ≤ 127 ∧ u % (hf i1.toNatClampNeg).toInt.natAbs = (hf i0.toNatClampNeg).toInt.natAbs % (hf i1.toNatClampNeg).toInt.natAbs) (fun u => u) (fun u => [(0, .ref mo), (1, .int i0), (2, .int i1), (3, .int (nI u))]) (fun u hu ih ls hl => ?_) ((hf i0.toNatClampNeg).toInt.natAbs) (show ((hf i0.toNatClampNeg).toInt.natAbs) ≤ 127 ∧ ((hf i0.toNatClampNeg).toInt.natAbs) % (hf i1.toNatClampNeg).toInt.natAbs = (hf i0.toNatClampNeg).toInt.natAbs % (hf i1.toNatClampNeg).toInt.natAbs from ⟨n_R127 (gH _ (n_ix gp0)), rfl⟩) (lv_sub hl [1, 2, 3, 0] rfl)
  obtain ⟨r, rfl⟩ : ∃ z, z = u := ⟨_, rfl⟩
  obtain ⟨hr1, hr2⟩ : r ≤ 127 ∧ r % (hf i1.toNatClampNeg).toInt.natAbs = (hf i0.toNatClampNeg).toInt.natAbs % (hf i1.toNatClampNeg).toInt.natAbs := hu
  have hl : lv_has ls 4 [(0, .ref mo), (1, .int i0), (2, .int i1), (3, .int (nI r))] := hl
  have hy0 := ny_nz0 g0
  have hy1 : 0 < (hf i1.toNatClampNeg).toInt.natAbs := by omega
  refine lv_iload_n hx hb dX2_cutOf_10 rfl (lv_at hl 3 rfl) ?_
  refine lv_aload_n hx hb dX2_cutOf_11 rfl (lv_at hl 0 rfl) ?_
  refine va_get (D := D) (ci := 4) (v := .ref m1) (C := RX2) (T := TX2) (N := 6) hx hb hts in_X2_cutOf_X2 hown hK hP 0 rfl rfl 1 (by decide) (hts (.fieldLink RX2 7 "NearestclockModel" "eighths" "[I") (List.mem_of_getElem? (i := 1) rfl)) (fun _ h9 => h9) rfl dX2_cutOf_12 ?_
  refine lv_iload_n hx hb dX2_cutOf_15 rfl (lv_at hl 2 rfl) ?_
  refine va_iald hx hb hK hP 1 0 rfl rfl (by assumption) dX2_cutOf_16 ?_
  refine vp_callSi (va_Run.run (va_runS (As := [.int (hf i1.toNatClampNeg)]) (rest := [.int (nI r)]) ⟨hx, hb, hml, hown, hts⟩ (c_X2_size l (hf i1.toNatClampNeg)) (va_cwS 1 hts gX2_cutOf_X2_size rfl rfl rfl (by decide +kernel) ⟨Nat.le_of_ble_eq_true rfl, Nat.le_of_ble_eq_true rfl⟩) ⟨ny_blindT, fun U hU hW => ⟨rfl, trivial⟩⟩ rfl rfl hl.1 rfl (lv_room (Nat.le_of_ble_eq_true rfl)) dX2_cutOf_17 ⟨Nat.le_of_ble_eq_true rfl, Nat.le_of_ble_eq_true rfl⟩)) (fun r_17 hw_17 => ?_)
  have hw_17 : r_17 = ny_ab (hf i1.toNatClampNeg) := hw_17
  subst hw_17
  refine lv_icmp_lt (tgt := 38) hx hb dX2_cutOf_20 (by decide) (fun c_20 => ?_) (fun c_20 => ?_)
  · refine lv_aload_n hx hb dX2_cutOf_38 rfl (lv_at hl 0 rfl) ?_
    refine va_get (D := D) (ci := 4) (v := .ref m1) (C := RX2) (T := TX2) (N := 6) hx hb hts in_X2_cutOf_X2 hown hK hP 0 rfl rfl 1 (by decide) (hts (.fieldLink RX2 7 "NearestclockModel" "eighths" "[I") (List.mem_of_getElem? (i := 1) rfl)) (fun _ h9 => h9) rfl dX2_cutOf_39 ?_
    refine lv_iload_n hx hb dX2_cutOf_42 rfl (lv_at hl 1 rfl) ?_
    refine va_iald hx hb hK hP 1 0 rfl rfl (by assumption) dX2_cutOf_43 ?_
    refine lv_if_ge (tgt := 52) hx hb dX2_cutOf_44 (by decide) (fun c_44 => ?_) (fun c_44 => ?_)
    · refine lv_iload_n hx hb dX2_cutOf_52 rfl (lv_at hl 3 rfl) ?_
      exact W.iret (v := nI r) hx hb hr (fun t ht hW => ⟨nI r, rfl, (n_cuE (gH _ (n_ix gp0)) (gH _ (n_ix gp1)) hr2 ((n_nIab (gH _ (n_ix gp1)) hr1).mp c_20)).2 (n_ge c_44), ht⟩) (fun q hq => absurd hq List.not_mem_nil) dX2_cutOf_53
    · refine lv_iload_n hx hb dX2_cutOf_47 rfl (lv_at hl 3 rfl) ?_
      refine lv_ineg hx hb dX2_cutOf_48 ?_
      refine lv_goto (tgt := 53) hx hb dX2_cutOf_49 (by decide) ?_
      exact W.iret (v := -(nI r)) hx hb hr (fun t ht hW => ⟨-(nI r), rfl, (n_cuE (gH _ (n_ix gp0)) (gH _ (n_ix gp1)) hr2 ((n_nIab (gH _ (n_ix gp1)) hr1).mp c_20)).1 (n_nge c_44), ht⟩) (fun q hq => absurd hq List.not_mem_nil) dX2_cutOf_53
  · have h9 : (hf i1.toNatClampNeg).toInt.natAbs ≤ r := by rw [n_nIab (gH _ (n_ix gp1)) hr1] at c_20; omega
    refine lv_iload_n hx hb dX2_cutOf_23 rfl (lv_at hl 3 rfl) ?_
    refine lv_aload_n hx hb dX2_cutOf_24 rfl (lv_at hl 0 rfl) ?_
    refine va_get (D := D) (ci := 4) (v := .ref m1) (C := RX2) (T := TX2) (N := 6) hx hb hts in_X2_cutOf_X2 hown hK hP 0 rfl rfl 1 (by decide) (hts (.fieldLink RX2 7 "NearestclockModel" "eighths" "[I") (List.mem_of_getElem? (i := 1) rfl)) (fun _ h9 => h9) rfl dX2_cutOf_25 ?_
    refine lv_iload_n hx hb dX2_cutOf_28 rfl (lv_at hl 2 rfl) ?_
    refine va_iald hx hb hK hP 1 0 rfl rfl (by assumption) dX2_cutOf_29 ?_
    refine vp_callSi (va_Run.run (va_runS (As := [.int (hf i1.toNatClampNeg)]) (rest := [.int (nI r)]) ⟨hx, hb, hml, hown, hts⟩ (c_X2_size l (hf i1.toNatClampNeg)) (va_cwS 1 hts gX2_cutOf_X2_size rfl rfl rfl (by decide +kernel) ⟨Nat.le_of_ble_eq_true rfl, Nat.le_of_ble_eq_true rfl⟩) ⟨ny_blindT, fun U hU hW => ⟨rfl, trivial⟩⟩ rfl rfl hl.1 rfl (lv_room (Nat.le_of_ble_eq_true rfl)) dX2_cutOf_30 ⟨Nat.le_of_ble_eq_true rfl, Nat.le_of_ble_eq_true rfl⟩)) (fun r_30 hw_30 => ?_)
    have hw_30 : r_30 = ny_ab (hf i1.toNatClampNeg) := hw_30
    subst hw_30
    refine lv_isub hx hb dX2_cutOf_33 ?_
    refine ny_ti (x2 := nI (r - (hf i1.toNatClampNeg).toInt.natAbs)) (by rw [n_abN (gH _ (n_ix gp1))]; exact pk_sub h9) ?_
    refine lv_istore_n (lv' := [(3, .int (nI (r - (hf i1.toNatClampNeg).toInt.natAbs))), (0, .ref mo), (1, .int i0), (2, .int i1)]) hx hb dX2_cutOf_34 rfl hl (by decide) rfl (fun ls hl => ?_)
    refine lv_goto (tgt := 10) hx hb dX2_cutOf_35 (by decide) ?_
    exact ih (r - (hf i1.toNatClampNeg).toInt.natAbs) (show (r - (hf i1.toNatClampNeg).toInt.natAbs) ≤ 127 ∧ (r - (hf i1.toNatClampNeg).toInt.natAbs) % (hf i1.toNatClampNeg).toInt.natAbs = (hf i0.toNatClampNeg).toInt.natAbs % (hf i1.toNatClampNeg).toInt.natAbs from ⟨by omega, (n_modS h9).trans hr2⟩) (show (r - (hf i1.toNatClampNeg).toInt.natAbs) < r by omega) _ (lv_sub hl [1, 2, 3, 0] rfl)

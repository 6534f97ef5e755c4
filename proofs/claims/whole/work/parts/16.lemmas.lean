/-! THE CLASS, by contract, the rest: digits, measures, inverses, checksum, isTrue. -/
section
variable {p : Program} {l : Launch} {e : Env} {R : Room} {s : State} {m : MethodId} {args : Array Value} {below : List Frame} {meth : Method} {c : Code} {H : Heap} {locs : List Loc} {cells slots : Nat} {Q : State → Prop}
variable {D : va_G} {ty tyc : List (ClassId × FieldType)} {A fr : Nat → Prop} {ws wc wr : va_W} {mc ms pc : Nat} {ls : Array Slot} {st0 rest : List Value} {a : Array Value} {Qc : Array Value → State → Outcome → State → Prop}
/-- new X(text) thrown out of the method, with the world as it is then -/
theorem ny_throwW {cc : ByteArray} {pc : Nat} (hexec : p.tables.exec = Jvm.exec) (hb : c.code = cc) (hl9 : l.stackTraces = false) {cls text : String} {ik is ic : Nat} (hown : s.vm.findClass RX1 = some m.cls) (hcls : Bundle.fit cls = true) (hk : (Cond.classLink RX1 ik cls).before args s = true) (hini : (Cond.initialized cls).before args s = true) (hE : ny_ev A s s.heap) (hte : (is, text) ∈ ny_texts) (hca : cls ∈ ny_cs)
    (hat : ∀ w ∈ (vx_atS RX1 ic cls ny_nm).filter goodWord, w.before args s = true) (hbad : ∀ w ∈ (vx_atS RX1 ic cls ny_nm).filter (fun w => !goodWord w), w ∈ ny_bad cls) (hgood : ∀ w ∈ Cond.classLink RX1 ik cls :: Cond.initialized cls :: vx_atS RX1 ic cls ny_nm, vx_ot w = true)
    (hP : va_P D vwCl ws H) (hK : va_K D vwCl ty s) (hD : va_D A ws)
    (hS : va_S A s.heap H locs) (hsize : ls.size = c.maxLocals) (d0 : decode cc pc = .ok (.new ik, 3)) (d3 : decode cc (pc + 3) = .ok (.dup, 1)) (d4 : decode cc (pc + 4) = .ok (.ldc is, 2)) (d6 : decode cc (pc + 6) = .ok (.invokespecial ic, 3)) (d9 : decode cc (pc + 9) = .ok (.athrow, 1))
    (ht : ∀ x ∈ c.exceptionTable.toList, False) (hRf : 5 < R.frames) (hRl : (rest.map fun v => v.category).sum + 82 ≤ R.locals) (hRc : cells + 1 ≤ R.cells) (hRs : slots + 6 ≤ R.slots) (hlocks : meth.locks = false) (hc : cells + 1 ≤ mc) (hs : slots + 6 ≤ ms) :
    W p l e R s m args below meth c H locs cells slots (vx_MQ below Qc (vx_X (fun _ : Unit => True) (fun E' _ t => E' = cls ∧ ny_at D ty A ws t) A) args s mc ms A) (F0 m pc ls rest) := by
  obtain ⟨sa, hstr⟩ := hE.2.1 _ hte
  exact vx_throwS (names := ny_nm) (A := A) hexec hb hl9 hown hcls (by decide) hk hini hstr (vx_hat hat hbad (vx_c (va_Nw.use rfl (hE.2.2.2.2.1 _ hca)) (vx_c (va_Nw.use rfl (hE.2.2.2.2.2.2 _ (List.mem_of_getElem? (i := 0) rfl))) (vx_c (va_Nw.use rfl (hE.2.2.2.2.2.2 _ (List.mem_of_getElem? (i := 1) rfl))) (vx_c (va_Nw.use rfl (hE.2.2.2.2.2.2 _ (List.mem_of_getElem? (i := 2) rfl))) vx_n))))) hgood hE.1.1 hE.1.2 hS hsize d0 d3 d4 d6 d9 (fun x hx => (ht x hx).elim) hRf hRl hRc hRs hlocks
    (fun t hv hz hk => ⟨(), trivial, ⟨rfl, ny_keep hP hk, va_K.moved hv hK, hD⟩, Nat.le_trans hS.1 hz, fun q h1 h2 => by rw [hk q (Nat.lt_of_lt_of_le h1 hS.1)]; exact hS.2.1 q h1 h2⟩) hS.2.2 hc hs
end
/-- the checksum's steps -/
def f_ck (hf bf : Nat → Int32) : Nat → Int64
  | 0 => 17
  | k + 1 => 31 * f_ck hf bf k + f_bt (hf k) (bf k)
def f_cd (a : Int64) (tr : Nat → Int32) : Nat → Int64
  | 0 => a
  | k + 1 => 31 * f_cd a tr k + (tr k).toInt64
theorem f_ckS (hf bf : Nat → Int32) {k : Nat} (hk : k < 12) : 31 * f_ck hf bf k + f_bt (hf (nI k).toNatClampNeg) (bf (nI k).toNatClampNeg) = f_ck hf bf (k + 1) := by
  rw [nI_clamp (by omega)]
  rfl
theorem f_cdS (a : Int64) (tr : Nat → Int32) {k : Nat} (hk : k < 2 ^ 31) : 31 * f_cd a tr k + (tr (nI k).toNatClampNeg).toInt64 = f_cd a tr (k + 1) := by
  rw [nI_clamp hk]
  rfl
theorem n_kH {hf : Nat → Int32} (gH : ny_H hf) {k : Nat} (hk : k < 12) : ny_R (hf (nI k).toNatClampNeg) := by
  rw [nI_clamp (by omega)]
  exact gH k hk
/-! rests are true -/
theorem n_t1 {x y : Int32} (gx : ny_R x) (gy : ny_R y) (g0 : ¬ y = 0) (c : ¬ 2 * ny_ab (f_re x y) < ny_ab y) : 2 * ny_ab (f_re x y) = ny_ab y ∧ f_nr x y &&& 1 = 0 := by
  have h1 := f_re_i (x := x) gy g0
  have h2 := ma_nr_ok (x := x.toInt) (ny_nz0 g0)
  have h3 : ma_re x.toInt y.toInt = x.toInt - ma_nr x.toInt y.toInt * y.toInt := rfl
  have h4 := ny_ab_i (ny_R_lo (ny_R_re (x := x) gy g0))
  have h5 := ny_ab_i (ny_R_lo gy)
  have h6 := ny_R_re (x := x) gy g0
  have h7 := f_nr_i gx g0
  unfold ny_R at h6
  have h8 := n_2x (x := ny_ab (f_re x y)) (by omega) (by omega)
  rw [fa_lt] at c
  rw [ny_and1, h7, fa_eq]
  unfold ma_NR at h2
  rw [← h3, ← h1] at h2
  omega
theorem n_reN {x y : Int} (hy : y ≠ 0) : ma_re x (-y) = ma_re x y := by
  have h := ma_nr_ok (x := x) hy
  have h2 : ma_nr x (-y) = -ma_nr x y := by
    refine ma_nr_of (by omega) ?_
    unfold ma_NR at h ⊢
    have e : -ma_nr x y * -y = ma_nr x y * y := Int.neg_mul_neg _ _
    rw [e]
    omega
  unfold ma_re
  rw [h2, Int.neg_mul_neg]
theorem n_reM {x y : Int} (hy : y ≠ 0) : ma_re (-x) y = -ma_re x y := by
  have h := ma_nr_ok (x := x) hy
  have h2 : ma_nr (-x) y = -ma_nr x y := by
    refine ma_nr_of hy ?_
    unfold ma_NR at h ⊢
    have e : -ma_nr x y * y = -(ma_nr x y * y) := Int.neg_mul _ _
    rw [e]
    omega
  unfold ma_re
  rw [h2, Int.neg_mul]
  omega
theorem n_reR {x y : Int} (hy : y ≠ 0) : ma_re (ma_re x y) y = ma_re x y := by
  have h := ma_half (x := x) hy
  have h3 : ma_re x y = x - ma_nr x y * y := rfl
  rw [← h3] at h
  have h2 : ma_nr (ma_re x y) y = 0 := by
    refine ma_nr_of hy ?_
    unfold ma_NR
    rw [Int.zero_mul]
    omega
  show ma_re x y - ma_nr (ma_re x y) y * y = ma_re x y
  rw [h2, Int.zero_mul]
  omega
theorem n_t2 {x y : Int32} (gy : ny_R y) (g0 : ¬ y = 0) : f_re x (-y) = f_re x y := by
  have h1 : (-y).toInt = -y.toInt := fb_negI (by unfold ny_R at gy; omega)
  unfold f_re
  rw [h1, n_reN (ny_nz0 g0)]
theorem n_t3 {x y : Int32} (gx : ny_R x) (gy : ny_R y) (g0 : ¬ y = 0) : f_re (-x) y = -f_re x y := by
  have h1 : (-x).toInt = -x.toInt := fb_negI (by unfold ny_R at gx; omega)
  unfold f_re
  rw [h1, n_reM (ny_nz0 g0), Int32.ofInt_neg]
theorem n_t4 {x y : Int32} (gy : ny_R y) (g0 : ¬ y = 0) : f_re (f_re x y) y = f_re x y := by
  have h1 := f_re_i (x := x) gy g0
  have h2 : f_re (f_re x y) y = Int32.ofInt (ma_re (f_re x y).toInt y.toInt) := rfl
  rw [h2, h1, n_reR (ny_nz0 g0)]
  rfl
theorem n_reC {x y : Int} : ma_re x y = x.tmod y ∨ ma_re x y = x.tmod y - y ∨ ma_re x y = x.tmod y + y := by
  have e1 : x.tmod y + x.tdiv y * y = x := Int.tmod_add_tdiv_mul x y
  unfold ma_re ma_nr
  split
  · left; omega
  · split
    · right; left
      rw [Int.add_mul]; omega
    · right; right
      rw [Int.sub_mul]; omega
theorem n_t5 {x y : Int32} (gx : ny_R x) (gy : ny_R y) (g0 : ¬ y = 0) (c : ¬ ny_ab (f_re x y - f_cu x y) = 0) : ny_ab (f_re x y - f_cu x y) = ny_ab y := by
  have h1 := f_re_i (x := x) gy g0
  have h2 := f_cu_i (y := y) (ny_R_lo gx)
  have h3 := n_reC (x := x.toInt) (y := y.toInt)
  have h4 := ny_R_re (x := x) gy g0
  have h5 := n_R_cu (y := y) gx
  have h6 := ny_ab_i (ny_R_lo gy)
  unfold ny_R at h4 h5
  have h7 : (f_re x y - f_cu x y).toInt = (f_re x y).toInt - (f_cu x y).toInt := fb_subI (by omega) (by omega)
  have h8 := ny_ab_i (x := f_re x y - f_cu x y) (by omega)
  rw [fa_eq, h8, h7, ny_z0] at c
  rw [fa_eq, h8, h7, h6]
  omega
/-! residues are true -/
theorem n_r5 {x y : Int32} (gy : ny_R y) (g0 : ¬ y = 0) : ¬ (2 : Int32) * f_rs x.toInt64 y ≤ -ny_ab y ∧ ¬ ny_ab y < 2 * f_rs x.toInt64 y := by
  have h1 := f_rs_i (v := x.toInt64) gy g0
  have h2 := ma_rs_ok (v := x.toInt64.toInt) (ny_nz0 g0)
  have h3 := ny_ab_i (ny_R_lo gy)
  have h4 := ny_R_rs (v := x.toInt64) gy g0
  unfold ny_R at h4 gy
  have h5 := n_2x (x := f_rs x.toInt64 y) (by omega) (by omega)
  have h6 := fb_negI (x := ny_ab y) (by omega)
  obtain ⟨-, a, b⟩ := h2
  rw [fa_le, fa_lt, h5, h6]
  omega
theorem n_r6 {x y : Int32} (gx : ny_R x) (gy : ny_R y) (g0 : ¬ y = 0) : f_cu (x - f_rs x.toInt64 y) y = 0 := by
  have h1 := f_rs_i (v := x.toInt64) gy g0
  rw [Int32.toInt_toInt64] at h1
  have h4 := ny_R_rs (v := x.toInt64) gy g0
  unfold ny_R at h4 gx
  have h2 : (x - f_rs x.toInt64 y).toInt = x.toInt - (f_rs x.toInt64 y).toInt := fb_subI (by omega) (by omega)
  have h3 := f_cu_i (x := x - f_rs x.toInt64 y) (y := y) (by omega)
  rw [fa_eq, h3, h2, h1, ny_z0]
  exact Int.tmod_eq_zero_of_dvd (ma_rs_dvd (ny_nz0 g0))
theorem n_r7 {x y : Int32} (gx : ny_R x) (gy : ny_R y) (g0 : ¬ y = 0) : f_rs (f_rs x.toInt64 y + f_rs x.toInt64 y).toInt64 y = f_rs (x + x).toInt64 y := by
  have h1 := f_rs_i (v := x.toInt64) gy g0
  rw [Int32.toInt_toInt64] at h1
  have h4 := ny_R_rs (v := x.toInt64) gy g0
  unfold ny_R at h4 gx
  rw [n_rsI gy g0, Int32.toInt_toInt64, Int32.toInt_toInt64, fb_addI (by omega) (by omega), fb_addI (by omega) (by omega), h1]
  refine ma_rs_congr (ny_nz0 g0) ?_
  have h5 := ma_rs_sub (v := x.toInt) (ny_nz0 g0)
  have h6 := Int.dvd_add h5 h5
  have e : ma_rs x.toInt y.toInt + ma_rs x.toInt y.toInt - (x.toInt + x.toInt) = (ma_rs x.toInt y.toInt - x.toInt) + (ma_rs x.toInt y.toInt - x.toInt) := by omega
  rw [e]
  exact h6
theorem n_r8 {x y : Int32} (gx : ny_R x) (gy : ny_R y) (g0 : ¬ y = 0) : f_rs (f_rs x.toInt64 y * f_rs x.toInt64 y).toInt64 y = f_rs (x * x).toInt64 y := by
  have h1 := f_rs_i (v := x.toInt64) gy g0
  rw [Int32.toInt_toInt64] at h1
  have h4 := ny_R_rs (v := x.toInt64) gy g0
  have h7 := n_pr (n_R127 h4) (n_R127 h4)
  have h8 := n_pr (n_R127 gx) (n_R127 gx)
  rw [n_rsI gy g0, Int32.toInt_toInt64, Int32.toInt_toInt64, fb_mulI (by omega) (by omega), fb_mulI (by omega) (by omega), h1]
  refine ma_rs_congr (ny_nz0 g0) ?_
  have h5 := ma_rs_sub (v := x.toInt) (ny_nz0 g0)
  generalize ma_rs x.toInt y.toInt = r at h5 ⊢
  have e : r * r - x.toInt * x.toInt = (r - x.toInt) * (r + x.toInt) := by
    rw [Int.sub_mul, Int.mul_add, Int.mul_add, Int.mul_comm x.toInt r]
    omega
  rw [e]
  exact Int.dvd_mul_of_dvd_left h5
theorem n_ivG {x y : Int} (hz : y.natAbs ≤ 127) (h0 : y ≠ 0) (hg : Int.gcd x y = 1) : ∃ r, ma_IV x y r ∧ -127 ≤ r ∧ r ≤ 127 := by
  rcases n_inv hz hg with q | q
  · generalize (ma_sh (ma_dg x y) 1 0 (ma_ln x y)).1 = v at q
    have hd := ma_rs_sub (v := v) h0
    have hs := ma_rs_size (v := v) h0
    refine ⟨ma_rs v y, ⟨ma_rs_congr h0 hd, ma_rs_congr h0 ?_⟩, by omega, by omega⟩
    have e : x * ma_rs v y - 1 = x * (ma_rs v y - v) + (x * v - 1) := by rw [Int.mul_sub]; omega
    rw [e]
    exact Int.dvd_add (Int.dvd_mul_of_dvd_right hd) q
  · generalize (ma_sh (ma_dg x y) 1 0 (ma_ln x y)).1 = v at q
    have hd := ma_rs_sub (v := -v) h0
    have hs := ma_rs_size (v := -v) h0
    refine ⟨ma_rs (-v) y, ⟨ma_rs_congr h0 hd, ma_rs_congr h0 ?_⟩, by omega, by omega⟩
    have e : x * ma_rs (-v) y - 1 = x * (ma_rs (-v) y - -v) - (x * v + 1) := by rw [Int.mul_sub, Int.mul_neg]; omega
    rw [e]
    exact Int.dvd_sub (Int.dvd_mul_of_dvd_right hd) q
theorem n_iv128 {x y : Int32} (gx : ny_R x) (gy : ny_R y) (g0 : ¬ y = 0) : f_iv x y = 128 ↔ ¬ f_gd x y = 1 := by
  have h0 := ny_nz0 g0
  have hg := n_gdI gy gx
  rw [fa_eq, fa_eq, f_iv_i, hg.1, ny_z1]
  have z : (128 : Int32).toInt = 128 := rfl
  rw [z]
  constructor
  · intro h q
    obtain ⟨r, hr, r1, r2⟩ := n_ivG (x := x.toInt) (n_R127 gy) h0 (by omega)
    have := n_ivF_some h0 hr 255 (by omega) (by omega)
    omega
  · intro h
    exact n_ivF_none (fun r q => h (by rw [n_IVg h0 q]; rfl)) 255
/-! measures are true -/
theorem n_av {x y : Int32} {sr : Nat → Int32} (gx : ny_R x) (gy : ny_R y) (g0 : ¬ y = 0) : ((f_sh (f_row sr x y (f_ln x y)) 0 1 (nI (f_ln x y)).toNatClampNeg).2).toInt = (ma_sh (ma_dg x.toInt y.toInt) 0 1 (ma_ln x.toInt y.toInt)).2 ∧ ((f_sh (f_row sr x y (f_ln x y)) 1 0 (nI (f_ln x y)).toNatClampNeg).2).toInt = (ma_sh (ma_dg x.toInt y.toInt) 1 0 (ma_ln x.toInt y.toInt)).2 := by
  have h1 := n_lnI (x := x) gy
  have h3 := n_shR (rf := sr) (x := x) (z := y) (b := 0) (w := 1) (k := f_ln x y) (n := f_ln x y) (Nat.le_refl _)
  have h4 := n_shR (rf := sr) (x := x) (z := y) (b := 1) (w := 0) (k := f_ln x y) (n := f_ln x y) (Nat.le_refl _)
  obtain ⟨e1, e2⟩ := n_end (x := x.toInt) (n_R127 gy)
  have h6 := n_lastp (x := x.toInt) (n_R127 gy) (ny_nz0 g0)
  have h7 := ma_mulabs (ma_sh (ma_dg x.toInt y.toInt) 0 1 (ma_ln x.toInt y.toInt)).2 (ma_eu x.toInt y.toInt (ma_ln x.toInt y.toInt)).1
  have h8 := ma_mulabs (ma_sh (ma_dg x.toInt y.toInt) 1 0 (ma_ln x.toInt y.toInt)).2 (ma_eu x.toInt y.toInt (ma_ln x.toInt y.toInt)).1
  have h9 : (ma_sh (ma_dg x.toInt y.toInt) 0 1 (ma_ln x.toInt y.toInt)).2.natAbs ≤ (ma_sh (ma_dg x.toInt y.toInt) 0 1 (ma_ln x.toInt y.toInt)).2.natAbs * (ma_eu x.toInt y.toInt (ma_ln x.toInt y.toInt)).1.natAbs := Nat.le_mul_of_pos_right _ (by omega)
  have h10 : (ma_sh (ma_dg x.toInt y.toInt) 1 0 (ma_ln x.toInt y.toInt)).2.natAbs ≤ (ma_sh (ma_dg x.toInt y.toInt) 1 0 (ma_ln x.toInt y.toInt)).2.natAbs * (ma_eu x.toInt y.toInt (ma_ln x.toInt y.toInt)).1.natAbs := Nat.le_mul_of_pos_right _ (by omega)
  have gx1 := n_R127 gx
  have gy1 := n_R127 gy
  rw [e1] at h7
  rw [e2] at h8
  rw [nI_clamp (by omega)]
  have h11 : f_sh (f_row sr x y (f_ln x y)) 0 1 (f_ln x y) = _ := h3
  have h12 : f_sh (f_row sr x y (f_ln x y)) 1 0 (f_ln x y) = _ := h4
  rw [h11, h12]
  exact ⟨n_oi (n := (ma_sh (ma_dg x.toInt y.toInt) 0 1 (ma_ln x.toInt y.toInt)).2) (by omega) (by omega), n_oi (n := (ma_sh (ma_dg x.toInt y.toInt) 1 0 (ma_ln x.toInt y.toInt)).2) (by omega) (by omega)⟩
theorem n_m0 {x y : Int32} (gx : ny_R x) (gy : ny_R y) (g0 : ¬ y = 0) : ¬ f_gd x y ≤ 0 := by
  have h1 := n_gdI gy gx
  have h2 := n_gpos (x := x.toInt) (z := y.toInt) (Or.inr (ny_nz0 g0))
  rw [fa_le, h1.1, ny_z0]
  omega
theorem n_m1 {x y : Int32} (gx : ny_R x) (gy : ny_R y) : f_cu x (f_gd x y) = 0 ∧ f_cu y (f_gd x y) = 0 := by
  have h1 := n_gdI gy gx
  rw [fa_eq, fa_eq, f_cu_i (ny_R_lo gx), f_cu_i (ny_R_lo gy), h1.1, ny_z0]
  exact ⟨Int.tmod_eq_zero_of_dvd (Int.gcd_dvd_left ..), Int.tmod_eq_zero_of_dvd (Int.gcd_dvd_right ..)⟩
theorem n_m2 {x y a t : Int32} (gx : ny_R x) (gy : ny_R y) (gt : ny_R t) {A : Int} (ha : a.toInt = A) (h : A * (ma_eu x.toInt y.toInt (ma_ln x.toInt y.toInt)).1 = t.toInt) (g0 : ¬ y = 0) : ny_ab a * f_gd x y = ny_ab t := by
  have h1 := n_gdI gy gx
  have h2 := ma_eu_last (x := x.toInt) (n_R127 gy)
  have h3 := ma_mulabs A (ma_eu x.toInt y.toInt (ma_ln x.toInt y.toInt)).1
  have h6 := n_lastp (x := x.toInt) (n_R127 gy) (ny_nz0 g0)
  have h9 : A.natAbs ≤ A.natAbs * (ma_eu x.toInt y.toInt (ma_ln x.toInt y.toInt)).1.natAbs := Nat.le_mul_of_pos_right _ (by omega)
  have gt1 := n_R127 gt
  rw [h] at h3
  have h4 := ny_ab_i (x := a) (by omega)
  have h5 := ny_ab_i (ny_R_lo gt)
  have h7 : (ny_ab a).toInt * (f_gd x y).toInt = (t.toInt.natAbs : Int) := by
    rw [h4, h1.1, ha, h3, h2]
    exact (Int.natCast_mul ..).symm
  rw [fa_eq, fb_mulI (by omega) (by omega), h7, h5]
theorem n_m3 {x y a b : Int32} {A B : Int} (gx : ny_R x) (gy : ny_R y) (ha : a.toInt = A) (hb : b.toInt = B) (h1 : A * (ma_eu x.toInt y.toInt (ma_ln x.toInt y.toInt)).1 = x.toInt) (h2 : B * (ma_eu x.toInt y.toInt (ma_ln x.toInt y.toInt)).1 = y.toInt) : a * y = b * x := by
  have e1 : a = Int32.ofInt A := by rw [← ha, fb_asI]
  have e2 : b = Int32.ofInt B := by rw [← hb, fb_asI]
  have e3 : A * y.toInt = B * x.toInt := by
    have e := Int.mul_left_comm A B (ma_eu x.toInt y.toInt (ma_ln x.toInt y.toInt)).1
    rw [h1, h2] at e
    exact e
  have e4 : a * y = Int32.ofInt (A * y.toInt) := by rw [Int32.ofInt_mul, fb_asI, e1]
  have e5 : b * x = Int32.ofInt (B * x.toInt) := by rw [Int32.ofInt_mul, fb_asI, e2]
  rw [e4, e5, e3]
theorem n_la0 {x y : Int32} (gx : ny_R x) (gy : ny_R y) (g0 : ¬ y = 0) : ¬ f_la x y = 0 := by
  intro e
  have h1 := n_gdA gy gx
  have h2 := n_gd0 gy gx g0
  rw [e] at h1
  exact h2 h1.symm

/-! isTrue, what it looks at since the second landing: the sign of a rest of 0, how many residues there are, sums and products of two, lowest terms. -/
theorem f_bt_1 {r u : Int32} (c : ¬ u = 0) : f_bt r u = f_bt r 1 := by
  unfold f_bt
  rw [if_neg c, if_neg (show ¬ (1 : Int32) = 0 by decide)]
theorem n_sgp : ∀ n : Nat, n < 128 → f_bt (-nI n) 0 = f_bt (nI n) 1 ^^^ (-9223372036854775808) ∧ f_bt (-nI n) 1 = f_bt (nI n) 0 ^^^ (-9223372036854775808) := by decide +kernel
theorem n_sgn : ∀ n : Nat, n < 128 → f_bt (- -nI n) 0 = f_bt (-nI n) 1 ^^^ (-9223372036854775808) ∧ f_bt (- -nI n) 1 = f_bt (-nI n) 0 ^^^ (-9223372036854775808) := by decide +kernel
theorem n_sg {r : Int32} (gr : ny_R r) : f_bt (-r) 0 = f_bt r 1 ^^^ (-9223372036854775808) ∧ f_bt (-r) 1 = f_bt r 0 ^^^ (-9223372036854775808) := by
  obtain ⟨n, hn, rfl | rfl⟩ := n_pm gr
  · exact n_sgp n hn
  · exact n_sgn n hn
theorem n_sg1 {x y u : Int32} (gx : ny_R x) (gy : ny_R y) (g0 : ¬ y = 0) (c : ¬ u = 0) : f_bt (f_re (-x) y) 0 = f_bt (f_re x y) u ^^^ (-9223372036854775808) := by
  rw [n_t3 gx gy g0, f_bt_1 c]
  exact (n_sg (ny_R_re gy g0)).1
theorem n_sg0 {x y u : Int32} (gx : ny_R x) (gy : ny_R y) (g0 : ¬ y = 0) (c : u = 0) : f_bt (f_re (-x) y) 1 = f_bt (f_re x y) u ^^^ (-9223372036854775808) := by
  rw [n_t3 gx gy g0, c]
  exact (n_sg (ny_R_re gy g0)).2
theorem n_sgT {r u : Int32} (c : r = 0) (gu : ny_B u) (h : 0 ≤ lg_cmp (f_bt r u) 0) : (0 : Int32) = u := by
  rcases gu with rfl | rfl
  · rfl
  · rw [c] at h
    exact absurd h (by decide +kernel)
theorem n_sgF {r u : Int32} (c : r = 0) (gu : ny_B u) (h : ¬ 0 ≤ lg_cmp (f_bt r u) 0) : (1 : Int32) = u := by
  rcases gu with rfl | rfl
  · rw [c] at h
    exact absurd (show (0 : Int32) ≤ lg_cmp (f_bt 0 0) 0 by decide +kernel) h
  · rfl
/-! how many residues -/
theorem ma_rs_self {v y : Int} (hy : y ≠ 0) : ma_rs v y = v ↔ -(y.natAbs : Int) < 2 * v ∧ 2 * v ≤ (y.natAbs : Int) := by
  constructor
  · intro h
    have h1 := ma_rs_ok (v := v) hy
    rw [h] at h1
    exact h1.2
  · intro h
    exact ma_rs_of hy ⟨by rw [Int.sub_self]; exact Int.dvd_zero _, h.1, h.2⟩
def ma_ct (y : Int) : Nat → Nat
  | 0 => 0
  | k + 1 => if ma_rs ((k : Int) - (y.natAbs : Int)) y = (k : Int) - (y.natAbs : Int) then ma_ct y k + 1 else ma_ct y k
theorem ma_ct_eq {y : Int} (hy : y ≠ 0) : ∀ k : Nat, ma_ct y k = min k (3 * y.natAbs / 2 + 1) - min k (y.natAbs / 2 + 1)
  | 0 => by
    show 0 = _
    omega
  | k + 1 => by
    have h := ma_ct_eq hy k
    have h2 := ma_rs_self (v := (k : Int) - (y.natAbs : Int)) hy
    unfold ma_ct
    rw [h]
    split
    · rename_i q
      have h3 := h2.mp q
      omega
    · rename_i q
      have h3 := fun z => q (h2.mpr z)
      omega
theorem n_ct0 {y : Int32} (gy : ny_R y) : -ny_ab y = Int32.ofInt (((0 : Nat) : Int) - (y.toInt.natAbs : Int)) := by
  have h1 := ny_ab_i (ny_R_lo gy)
  have h2 := n_R127 gy
  refine ny_eqI ?_
  rw [fb_negI (by omega), h1, n_oi (by omega) (by omega)]
  omega
theorem n_ctL {y : Int32} {k : Nat} (gy : ny_R y) (hk : k ≤ 2 * y.toInt.natAbs + 1) (c : ¬ ny_ab y < Int32.ofInt ((k : Int) - (y.toInt.natAbs : Int))) : k < 2 * y.toInt.natAbs + 1 := by
  have h2 := n_R127 gy
  rw [fa_lt, ny_ab_i (ny_R_lo gy), n_oi (by omega) (by omega)] at c
  omega
theorem n_ctI (k : Nat) (s : Int) : Int32.ofInt ((k : Int) - s) + Int32.ofInt 1 = Int32.ofInt (((k + 1 : Nat) : Int) - s) := by
  rw [← Int32.ofInt_add]
  exact congrArg Int32.ofInt (by omega)
theorem n_ctC {y : Int32} {k : Nat} (gy : ny_R y) (g0 : ¬ y = 0) (hk : k < 2 * y.toInt.natAbs + 1) : f_rs (Int32.ofInt ((k : Int) - (y.toInt.natAbs : Int))).toInt64 y = Int32.ofInt ((k : Int) - (y.toInt.natAbs : Int)) ↔ ma_rs ((k : Int) - (y.toInt.natAbs : Int)) y.toInt = (k : Int) - (y.toInt.natAbs : Int) := by
  have h2 := n_R127 gy
  rw [fa_eq, f_rs_i gy g0, Int32.toInt_toInt64, n_oi (by omega) (by omega)]
theorem n_ctS1 {y : Int32} {k n : Nat} (gy : ny_R y) (g0 : ¬ y = 0) (hn : n = ma_ct y.toInt k) (hk : k < 2 * y.toInt.natAbs + 1) (c : f_rs (Int32.ofInt ((k : Int) - (y.toInt.natAbs : Int))).toInt64 y = Int32.ofInt ((k : Int) - (y.toInt.natAbs : Int))) : n + 1 = ma_ct y.toInt (k + 1) := by
  rw [n_ctC gy g0 hk] at c
  unfold ma_ct
  rw [if_pos c, hn]
theorem n_ctS0 {y : Int32} {k n : Nat} (gy : ny_R y) (g0 : ¬ y = 0) (hn : n = ma_ct y.toInt k) (hk : k < 2 * y.toInt.natAbs + 1) (c : ¬ f_rs (Int32.ofInt ((k : Int) - (y.toInt.natAbs : Int))).toInt64 y = Int32.ofInt ((k : Int) - (y.toInt.natAbs : Int))) : n = ma_ct y.toInt (k + 1) := by
  rw [n_ctC gy g0 hk] at c
  unfold ma_ct
  rw [if_neg c, hn]
theorem n_ctE {y : Int32} {k n : Nat} (gy : ny_R y) (g0 : ¬ y = 0) (hk : k ≤ 2 * y.toInt.natAbs + 1) (hn : n = ma_ct y.toInt k) (c : ny_ab y < Int32.ofInt ((k : Int) - (y.toInt.natAbs : Int))) : nI n = ny_ab y := by
  have h2 := n_R127 gy
  have h3 := ma_ct_eq (ny_nz0 g0) k
  rw [fa_lt, ny_ab_i (ny_R_lo gy), n_oi (by omega) (by omega)] at c
  have h4 : k = 2 * y.toInt.natAbs + 1 := by omega
  have h5 : n = y.toInt.natAbs := by
    rw [hn, h3, h4]
    omega
  refine ny_eqI ?_
  rw [nI_toInt (by omega), ny_ab_i (ny_R_lo gy), h5]
/-! sums and products of two -/
theorem n_plI {i : Int32} (h : vp_in i 12) : i = nI i.toNatClampNeg := by
  have h1 := n_ix h
  have h2 := n_ci i (n_p0 h)
  refine ny_eqI ?_
  rw [nI_toInt (by omega)]
  exact h2.symm
theorem n_kB {bf : Nat → Int32} (gB : ny_BB bf) {k : Nat} (hk : k < 12) : ny_B (bf (nI k).toNatClampNeg) := by
  rw [nI_clamp (by omega)]
  exact gB k hk
theorem n_r7z {x z y : Int32} (gx : ny_R x) (gz : ny_R z) (gy : ny_R y) (g0 : ¬ y = 0) : f_rs (f_rs x.toInt64 y + f_rs z.toInt64 y).toInt64 y = f_rs (x + z).toInt64 y := by
  have h1 := f_rs_i (v := x.toInt64) gy g0
  have h2 := f_rs_i (v := z.toInt64) gy g0
  rw [Int32.toInt_toInt64] at h1 h2
  have h4 := ny_R_rs (v := x.toInt64) gy g0
  have h5 := ny_R_rs (v := z.toInt64) gy g0
  unfold ny_R at h4 h5 gx gz
  rw [n_rsI gy g0, Int32.toInt_toInt64, Int32.toInt_toInt64, fb_addI (by omega) (by omega), fb_addI (by omega) (by omega), h1, h2]
  refine ma_rs_congr (ny_nz0 g0) ?_
  have h6 := Int.dvd_add (ma_rs_sub (v := x.toInt) (ny_nz0 g0)) (ma_rs_sub (v := z.toInt) (ny_nz0 g0))
  have e : ma_rs x.toInt y.toInt + ma_rs z.toInt y.toInt - (x.toInt + z.toInt) = (ma_rs x.toInt y.toInt - x.toInt) + (ma_rs z.toInt y.toInt - z.toInt) := by omega
  rw [e]
  exact h6
theorem n_r8z {x z y : Int32} (gx : ny_R x) (gz : ny_R z) (gy : ny_R y) (g0 : ¬ y = 0) : f_rs (f_rs x.toInt64 y * f_rs z.toInt64 y).toInt64 y = f_rs (x * z).toInt64 y := by
  have h1 := f_rs_i (v := x.toInt64) gy g0
  have h2 := f_rs_i (v := z.toInt64) gy g0
  rw [Int32.toInt_toInt64] at h1 h2
  have h4 := ny_R_rs (v := x.toInt64) gy g0
  have h5 := ny_R_rs (v := z.toInt64) gy g0
  have h7 := n_pr (n_R127 h4) (n_R127 h5)
  have h8 := n_pr (n_R127 gx) (n_R127 gz)
  rw [n_rsI gy g0, Int32.toInt_toInt64, Int32.toInt_toInt64, fb_mulI (by omega) (by omega), fb_mulI (by omega) (by omega), h1, h2]
  refine ma_rs_congr (ny_nz0 g0) ?_
  have h9 := ma_rs_sub (v := x.toInt) (ny_nz0 g0)
  have h10 := ma_rs_sub (v := z.toInt) (ny_nz0 g0)
  generalize ma_rs x.toInt y.toInt = r at h9 ⊢
  generalize ma_rs z.toInt y.toInt = q at h10 ⊢
  have e : r * q - x.toInt * z.toInt = (r - x.toInt) * q + x.toInt * (q - z.toInt) := by
    rw [Int.sub_mul, Int.mul_sub]
    omega
  rw [e]
  exact Int.dvd_add (Int.dvd_mul_of_dvd_left h9) (Int.dvd_mul_of_dvd_right h10)
/-! lowest terms -/
theorem n_wk {x y : Int32} {sr : Nat → Int32} (gy : ny_R y) (g0 : ¬ y = 0) (b w : Int) : (f_sh (f_row sr x y (f_ln x y)) (Int32.ofInt b) (Int32.ofInt w) (nI (f_ln x y - 1)).toNatClampNeg).2 = Int32.ofInt (ma_sh (ma_dg x.toInt y.toInt) b w (ma_ln x.toInt y.toInt)).1 := by
  have h1 := n_lnI (x := x) gy
  have h2 := n_lnP (x := x) gy g0
  have h4 := n_shR (rf := sr) (x := x) (z := y) (b := b) (w := w) (k := f_ln x y - 1) (n := f_ln x y) (by omega)
  rw [nI_clamp (by omega), h4]
  obtain ⟨k, hk⟩ : ∃ k, ma_ln x.toInt y.toInt = k + 1 := ⟨f_ln x y - 1, by show f_ln x y = _; omega⟩
  have hk2 : f_ln x y - 1 = k := by show ma_ln x.toInt y.toInt - 1 = k; omega
  rw [hk2, hk]
  rfl
theorem n_w1 {x y : Int32} {sr : Nat → Int32} (gy : ny_R y) (g0 : ¬ y = 0) : (f_sh (f_row sr x y (f_ln x y)) 1 0 (nI (f_ln x y - 1)).toNatClampNeg).2 = Int32.ofInt (ma_sh (ma_dg x.toInt y.toInt) 1 0 (ma_ln x.toInt y.toInt)).1 := n_wk gy g0 1 0
theorem n_w0 {x y : Int32} {sr : Nat → Int32} (gy : ny_R y) (g0 : ¬ y = 0) : (f_sh (f_row sr x y (f_ln x y)) 0 1 (nI (f_ln x y - 1)).toNatClampNeg).2 = Int32.ofInt (ma_sh (ma_dg x.toInt y.toInt) 0 1 (ma_ln x.toInt y.toInt)).1 := n_wk gy g0 0 1
theorem n_cr {d : Nat → Int} {k : Nat} {a b b7 a9 : Int32} (ha : a.toInt = (ma_sh d 0 1 k).2) (hb : b.toInt = (ma_sh d 1 0 k).2) (hb7 : b7 = Int32.ofInt (ma_sh d 1 0 k).1) (ha9 : a9 = Int32.ofInt (ma_sh d 0 1 k).1) : ny_ab (a * b7 - b * a9) = 1 := by
  have e1 : a = Int32.ofInt (ma_sh d 0 1 k).2 := by rw [← ha, fb_asI]
  have e2 : b = Int32.ofInt (ma_sh d 1 0 k).2 := by rw [← hb, fb_asI]
  have h := n_det d k
  rw [e1, e2, hb7, ha9, ← Int32.ofInt_mul, ← Int32.ofInt_mul, ← Int32.ofInt_sub, Int.mul_comm (ma_sh d 1 0 k).2 (ma_sh d 0 1 k).1]
  rcases h with h | h
  · rw [h]
    decide
  · rw [h]
    decide

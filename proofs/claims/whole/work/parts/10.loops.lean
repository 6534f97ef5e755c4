/-! LOOPS of the pure methods: the plain facts of each, then the walks. -/
theorem n_inc (n : Int) : Int32.ofInt n + Int32.ofInt 1 = Int32.ofInt (n + 1) := (Int32.ofInt_add n 1).symm
theorem n_dec (n : Int) : Int32.ofInt n + Int32.ofInt (-1) = Int32.ofInt (n - 1) := (Int32.ofInt_add n (-1)).symm
theorem n_incN (n : Nat) : nI n + Int32.ofInt 1 = nI (n + 1) := nI_1 n
theorem n_oi {n : Int} (h1 : -2000000000 ≤ n) (h2 : n ≤ 2000000000) : (Int32.ofInt n).toInt = n := fb_ofI (by omega) (by omega)
theorem n_pr {a b : Int} {A B : Nat} (ha : a.natAbs ≤ A) (hb : b.natAbs ≤ B) : (a * b).natAbs ≤ A * B := by
  rw [Int.natAbs_mul]
  exact Nat.mul_le_mul ha hb
/-- f is the best so far -/
def n_best (x y n f : Int) : Prop := ∀ k, (-127 ≤ k ∧ k < n) ∨ k = 0 → (x - f * y).natAbs < (x - k * y).natAbs ∨ ((x - f * y).natAbs = (x - k * y).natAbs ∧ (f % 2 = 0 ∨ k % 2 ≠ 0 ∨ k = f))
theorem n_b0 (x y : Int) : n_best x y (-127) 0 := by
  intro k hk
  have : k = 0 := by omega
  subst this
  exact Or.inr ⟨rfl, Or.inl rfl⟩
theorem n_b1 {x y n f : Int} (hB : n_best x y n f) (h : (x - n * y).natAbs < (x - f * y).natAbs) : n_best x y (n + 1) n := by
  intro k hk
  by_cases e : k = n
  · subst e
    exact Or.inr ⟨rfl, Or.inr (Or.inr rfl)⟩
  · have h1 := hB k (by omega)
    omega
theorem n_b2 {x y n f : Int} (hB : n_best x y n f) (h : (x - n * y).natAbs = (x - f * y).natAbs) (h2 : n % 2 = 0) : n_best x y (n + 1) n := by
  intro k hk
  by_cases e : k = n
  · subst e
    exact Or.inr ⟨rfl, Or.inr (Or.inr rfl)⟩
  · have h1 := hB k (by omega)
    omega
theorem n_b3 {x y n f : Int} (hB : n_best x y n f) (h : ¬ (x - n * y).natAbs < (x - f * y).natAbs) (h2 : (x - n * y).natAbs = (x - f * y).natAbs → n % 2 ≠ 0) : n_best x y (n + 1) f := by
  intro k hk
  by_cases e : k = n
  · subst e
    by_cases h3 : (x - k * y).natAbs = (x - f * y).natAbs
    · exact Or.inr ⟨h3.symm, Or.inr (Or.inl (h2 h3))⟩
    · omega
  · exact hB k (by omega)
theorem n_nrE {x y : Int32} {n f : Int} (gx : ny_R x) (g0 : ¬ y = 0) (hn : 127 < n) (hf : -127 ≤ f ∧ f ≤ 127) (hB : n_best x.toInt y.toInt n f) : Int32.ofInt f = f_nr x y := by
  have h0 := ny_nz0 g0
  have h1 := ma_nr_in (x := x.toInt) h0
  have h2 := ma_nr_ok (x := x.toInt) h0
  have gx' := gx
  unfold ny_R at gx
  have h3 := hB (ma_nr x.toInt y.toInt) (by omega)
  unfold f_nr
  refine congrArg Int32.ofInt (ma_nr_of h0 ?_).symm
  unfold ma_NR at h2 ⊢
  rcases h3 with h3 | ⟨h3, h4⟩
  · omega
  · rcases h4 with h4 | h4 | h4
    · omega
    · omega
    · rw [← h4]
      exact h2
theorem n_sz {x y : Int32} {n : Int} (gx : ny_R x) (gy : ny_R y) (hn : -127 ≤ n ∧ n ≤ 127) : (ny_ab (x - Int32.ofInt n * y)).toInt = ((x.toInt - n * y.toInt).natAbs : Int) := by
  unfold ny_R at gx gy
  have h1 := n_oi (n := n) (by omega) (by omega)
  have h2 := n_pr (a := n) (b := y.toInt) (A := 127) (B := 127) (by omega) (by omega)
  have h3 : (Int32.ofInt n * y).toInt = n * y.toInt := by rw [fb_mulI (by rw [h1]; omega) (by rw [h1]; omega), h1]
  have h4 : (x - Int32.ofInt n * y).toInt = x.toInt - n * y.toInt := by rw [fb_subI (by omega) (by omega), h3]
  rw [ny_ab_i (by omega), h4]
theorem n_ev {n : Int} (hn : -127 ≤ n ∧ n ≤ 127) : Int32.ofInt n - Int32.ofInt n / 2 * 2 = 0 ↔ n % 2 = 0 := by
  have h1 := n_oi (n := n) (by omega) (by omega)
  have h2 := ny_remI (x := Int32.ofInt n) (y := 2) (by omega)
  rw [fa_eq, h2, h1, ny_z0, ny_z2]
  constructor
  · intro h
    have h3 := Int.dvd_of_tmod_eq_zero h
    omega
  · intro h
    exact Int.tmod_eq_zero_of_dvd (by omega)
theorem n_gt {n : Int} (h : -127 ≤ n ∧ n ≤ 128) (c : (127 : Int32) < Int32.ofInt n) : 127 < n := by
  rw [fa_lt, n_oi (by omega) (by omega)] at c
  exact c
theorem n_ngt {n : Int} (h : -127 ≤ n ∧ n ≤ 128) (c : ¬ (127 : Int32) < Int32.ofInt n) : n ≤ 127 := by
  rw [fa_lt, n_oi (by omega) (by omega)] at c
  have z : (127 : Int32).toInt = 127 := rfl
  omega
/-- the one that is looked for, once it is passed -/
def n_fd (q n : Int) : Int := if q < n then q else 0
theorem n_fd0 {v y : Int} (gy : y.natAbs ≤ 127) (g0 : y ≠ 0) : n_fd (ma_rs v y) (-127) = 0 := by
  have h := ma_rs_size (v := v) g0
  unfold n_fd
  rw [if_neg (by omega)]
theorem n_fdE {v y : Int} (gy : y.natAbs ≤ 127) (g0 : y ≠ 0) {n : Int} (hn : 127 < n) : n_fd (ma_rs v y) n = ma_rs v y := by
  have h := ma_rs_size (v := v) g0
  unfold n_fd
  rw [if_pos (by omega)]
theorem n_fd1 {q n : Int} (h : n = q) : n_fd q (n + 1) = n := by
  unfold n_fd
  rw [if_pos (by omega)]
  exact h.symm
theorem n_fd2 {q n : Int} (h : ¬ n = q) : n_fd q n = n_fd q (n + 1) := by
  unfold n_fd
  by_cases h1 : q < n
  · rw [if_pos h1, if_pos (by omega)]
  · rw [if_neg h1, if_neg (by omega)]
theorem n_lc {x y : Int64} : lg_cmp x y = 0 ↔ x = y := by
  unfold lg_cmp
  by_cases h : x > y
  · rw [if_pos h]
    constructor
    · intro e; exact absurd e (by decide)
    · intro e
      have h1 : y < x := h
      rw [e, fa_lt64] at h1
      omega
  · rw [if_neg h]
    by_cases h2 : x = y
    · rw [if_pos h2]
      exact ⟨fun _ => h2, fun _ => rfl⟩
    · rw [if_neg h2]
      constructor
      · intro e; exact absurd e (by decide)
      · intro e; exact absurd e h2
theorem n_rc {v : Int64} {y : Int32} {n : Int} (gy : ny_R y) (g0 : ¬ y = 0) (gv : -1099511627776 ≤ v.toInt ∧ v.toInt ≤ 1099511627776) (hn : -127 ≤ n ∧ n ≤ 127) : (¬ (2 : Int32) * Int32.ofInt n ≤ -ny_ab y ∧ ¬ ny_ab y < 2 * Int32.ofInt n ∧ lg_cmp ((v - (Int32.ofInt n).toInt64) - (v - (Int32.ofInt n).toInt64) / y.toInt64 * y.toInt64) 0 = 0) ↔ n = ma_rs v.toInt y.toInt := by
  have h1 := n_oi (n := n) (by omega) (by omega)
  have h0 := ny_nz0 g0
  have gy' := gy
  unfold ny_R at gy
  have h2 := n_2x (x := Int32.ofInt n) (by omega) (by omega)
  have h3 := ny_ab_i (x := y) (by omega)
  have h4 := fb_negI (x := ny_ab y) (by omega)
  have h5 : (v - (Int32.ofInt n).toInt64).toInt = v.toInt - n := by
    rw [fb_subL (by rw [Int32.toInt_toInt64]; omega) (by rw [Int32.toInt_toInt64]; omega), Int32.toInt_toInt64, h1]
  have h6 := ny_remL (x := v - (Int32.ofInt n).toInt64) (y := y.toInt64) (by omega)
  rw [h5, Int32.toInt_toInt64] at h6
  have z : (0 : Int64).toInt = 0 := rfl
  rw [n_lc, fa_eq64, h6, fa_le, fa_lt, h2, h4, h3, h1, z]
  constructor
  · rintro ⟨a, b, c⟩
    exact (ma_rs_of h0 ⟨Int.dvd_of_tmod_eq_zero c, by omega, by omega⟩).symm
  · intro e
    have h7 := ma_rs_ok (v := v.toInt) h0
    rw [← e] at h7
    obtain ⟨a, b, c⟩ := h7
    exact ⟨by omega, by omega, Int.tmod_eq_zero_of_dvd a⟩
theorem n_gpos {x z : Int} (h : x ≠ 0 ∨ z ≠ 0) : 0 < Int.gcd x z := by
  rcases Nat.eq_zero_or_pos (Int.gcd x z) with q | q
  · have := Int.gcd_eq_zero_iff.mp q
    omega
  · exact q
theorem n_gle {x z : Int} (h : x ≠ 0 ∨ z ≠ 0) (hx : x.natAbs ≤ 127) (hz : z.natAbs ≤ 127) : Int.gcd x z ≤ 127 := by
  rcases h with h | h
  · have h1 : ((Int.gcd x z : Nat) : Int) ∣ x := Int.gcd_dvd_left ..
    have h2 := Int.natAbs_dvd_natAbs.mpr h1
    have h3 := Nat.le_of_dvd (by omega) h2
    have h4 : ((Int.gcd x z : Nat) : Int).natAbs = Int.gcd x z := Int.natAbs_natCast _
    omega
  · have h1 : ((Int.gcd x z : Nat) : Int) ∣ z := Int.gcd_dvd_right ..
    have h2 := Int.natAbs_dvd_natAbs.mpr h1
    have h3 := Nat.le_of_dvd (by omega) h2
    have h4 : ((Int.gcd x z : Nat) : Int).natAbs = Int.gcd x z := Int.natAbs_natCast _
    omega
theorem n_rem0 {x : Int32} {n : Int} (gx : ny_R x) (hn : -127 ≤ n ∧ n ≤ 127) : x - x / Int32.ofInt n * Int32.ofInt n = 0 ↔ n ∣ x.toInt := by
  have h1 := n_oi (n := n) (by omega) (by omega)
  have h2 := ny_remI (x := x) (y := Int32.ofInt n) (ny_R_lo gx)
  rw [fa_eq, h2, h1, ny_z0]
  exact ⟨Int.dvd_of_tmod_eq_zero, Int.tmod_eq_zero_of_dvd⟩
theorem n_gd1 {x z : Int} {n : Int} (h : ((Int.gcd x z : Nat) : Int) ≤ n) (hg : Int.gcd x z ≠ 0) (hx : n ∣ x) (hz : n ∣ z) : n = (Int.gcd x z : Nat) := by
  have h1 : n ∣ ((Int.gcd x z : Nat) : Int) := Int.dvd_coe_gcd hx hz
  have h4 := Int.le_of_dvd (by omega) h1
  omega
/-- the powers -/
theorem n_pw {x y : Int32} (gx : ny_R x) (gy : ny_R y) (g0 : ¬ y = 0) (k : Nat) : f_rs (Int32.ofInt (ma_rs (x.toInt ^ k) y.toInt) * x).toInt64 y = Int32.ofInt (ma_rs (x.toInt ^ (k + 1)) y.toInt) := by
  have h0 := ny_nz0 g0
  have h1 := ma_rs_size (v := x.toInt ^ k) h0
  unfold ny_R at gx gy
  have h2 := n_oi (n := ma_rs (x.toInt ^ k) y.toInt) (by omega) (by omega)
  have h3 := n_pr (a := ma_rs (x.toInt ^ k) y.toInt) (b := x.toInt) (A := 127) (B := 127) (by omega) (by omega)
  have h4 : (Int32.ofInt (ma_rs (x.toInt ^ k) y.toInt) * x).toInt64.toInt = ma_rs (x.toInt ^ k) y.toInt * x.toInt := by
    rw [Int32.toInt_toInt64, fb_mulI (by rw [h2]; omega) (by rw [h2]; omega), h2]
  unfold f_rs
  rw [h4]
  refine congrArg Int32.ofInt (ma_rs_congr h0 ?_)
  have h5 := Int.dvd_mul_of_dvd_left (ma_rs_sub (v := x.toInt ^ k) h0) (c := x.toInt)
  rw [Int.sub_mul] at h5
  rw [Int.pow_succ]
  exact h5
theorem n_pwE {x n y : Int32} {k : Nat} (hk : k ≤ n.toInt.toNat) (gn : 0 ≤ n.toInt ∧ n.toInt ≤ 1000) (c : n ≤ nI k) : Int32.ofInt (ma_rs (x.toInt ^ k) y.toInt) = f_pw x n y := by
  rw [fa_le, nI_toInt (by omega)] at c
  have : k = n.toInt.toNat := by omega
  unfold f_pw
  rw [this]
theorem n_pwC {n : Int32} {k : Nat} (hk : k ≤ n.toInt.toNat) (gn : 0 ≤ n.toInt ∧ n.toInt ≤ 1000) (c : ¬ n ≤ nI k) : k < n.toInt.toNat := by
  rw [fa_le, nI_toInt (by omega)] at c
  omega
/-- the bits -/
theorem n_abN {h : Int32} (gh : ny_R h) : ny_ab h = nI h.toInt.natAbs := by
  have h1 := ny_ab_i (ny_R_lo gh)
  unfold ny_R at gh
  refine ny_eqI ?_
  rw [h1, nI_toInt (by omega)]
theorem n_bt0 {h b : Int32} (c1 : h = 0) (c2 : b = 0) : (0 : Int64) = f_bt h b := by
  unfold f_bt
  rw [if_pos c1, if_pos c2]
theorem n_bt1 {h b : Int32} (c1 : h = 0) (c2 : ¬ b = 0) : (-9223372036854775808 : Int64) = f_bt h b := by
  unfold f_bt
  rw [if_pos c1, if_neg c2]
theorem n_Np {h : Int32} (gh : ny_R h) (c : ¬ h = 0) : 1 ≤ h.toInt.natAbs ∧ h.toInt.natAbs ≤ 127 := by
  have := ny_nz0 c
  unfold ny_R at gh
  omega
theorem n_p2lt {N j : Nat} (h : 2 ^ j ≤ N) (hN : N ≤ 127) : j ≤ 6 ∧ 2 ^ j ≤ 64 ∧ 2 ^ (j + 1) = 2 * 2 ^ j := by
  have h1 : j ≤ 6 := by
    rcases Nat.lt_or_ge 6 j with q | q
    · have := Nat.pow_le_pow_right (n := 2) (by decide) (show 7 ≤ j by omega)
      omega
    · exact q
  have h2 := Nat.pow_le_pow_right (n := 2) (by decide) h1
  exact ⟨h1, by omega, by rw [Nat.pow_succ]; omega⟩
theorem n_2n (a : Nat) : (2 : Int32) * nI a = nI (2 * a) := pk_mul 2 a
theorem n_n2 (a : Nat) : nI a * (2 : Int32) = nI (a * 2) := pk_mul a 2
theorem n_bfin {N j B L : Nat} (hj : 2 ^ j ≤ N) (hj2 : N < 2 ^ (j + 1)) (hN : N ≤ 127) (hL : L < 2 ^ j) (hI : B * 2 ^ j + L = 2 ^ 52 * ((1020 + j) * 2 ^ j + (N - 2 ^ j))) : B = f_btN N := by
  have h6 := (n_p2lt hj hN).1
  have hl : N.log2 = j := (Nat.log2_eq_iff (by have := Nat.pos_of_ne_zero (Nat.ne_of_gt (Nat.two_pow_pos j)); omega)).mpr ⟨hj, hj2⟩
  unfold f_btN
  rw [hl]
  have hc : j = 0 ∨ j = 1 ∨ j = 2 ∨ j = 3 ∨ j = 4 ∨ j = 5 ∨ j = 6 := by omega
  rcases hc with rfl | rfl | rfl | rfl | rfl | rfl | rfl <;> simp only [Nat.reducePow, Nat.reduceAdd, Nat.reduceSub, Nat.reduceMul] at * <;> omega
theorem n_bst {B P L X k d : Nat} (hd : d = 0 ∨ d = 1) (hI : B * P + L = 2 ^ k * X) (hL : L < P) (hd1 : d * P ≤ L * 2) : (2 * B + d) * P + (L * 2 - d * P) = 2 ^ (k + 1) * X := by
  have h1 : 2 ^ (k + 1) * X = 2 * (2 ^ k * X) := by rw [Nat.pow_succ, Nat.mul_comm (2 ^ k) 2, Nat.mul_assoc]
  rw [h1, ← hI, Nat.add_mul, Nat.mul_assoc]
  omega
theorem n_btB {h : Int32} {j : Nat} (h9 : j < 2 ^ 31) : (1020 : Int64) + (nI j).toInt64 = lN (1020 + j) := by
  rw [nI_l h9]
  exact lN_add 1020 j
theorem n_lB1 (B : Nat) : (2 : Int64) * lN B + 1 = lN (2 * B + 1) := by
  rw [show (2 : Int64) * lN B = lN (2 * B) from lN_mul 2 B, lN_1]
theorem n_lB0 (B : Nat) : (2 : Int64) * lN B + 0 = lN (2 * B + 0) := by
  rw [show (2 : Int64) * lN B = lN (2 * B) from lN_mul 2 B]
  exact lN_add (2 * B) 0
theorem n_btE1 {h b : Int32} (c : ¬ h = 0) (c2 : 0 ≤ h) {B : Nat} (e : B = f_btN h.toInt.natAbs) : lN B = f_bt h b := by
  unfold f_bt
  rw [if_neg c, if_neg (by rw [fa_le] at c2; rw [fa_lt]; omega), e, Nat.add_zero]
theorem n_btE2 {h b : Int32} (c : ¬ h = 0) (c2 : ¬ 0 ≤ h) {B : Nat} (e : B = f_btN h.toInt.natAbs) : lN B + (-9223372036854775808) = f_bt h b := by
  unfold f_bt
  rw [if_neg c, if_pos (by rw [fa_le] at c2; rw [fa_lt]; omega), e]
  exact lN_add _ 9223372036854775808
theorem n_N {x : Int32} (gx : 0 < x.toInt ∧ x.toInt ≤ 127) : ∃ n : Nat, n < 128 ∧ 0 < n ∧ x = nI n := by
  refine ⟨x.toInt.toNat, by omega, by omega, ny_eqI ?_⟩
  rw [nI_toInt (by omega)]
  omega
theorem n_lt52 {k : Nat} (h : k ≤ 52) (c : ¬ 52 ≤ nI k) : k < 52 := by
  rw [fa_le, nI_toInt (by omega)] at c
  have z : (52 : Int32).toInt = 52 := rfl
  omega
theorem n_ge52 {k : Nat} (h : k ≤ 52) (c : 52 ≤ nI k) : k = 52 := by
  rw [fa_le, nI_toInt (by omega)] at c
  have z : (52 : Int32).toInt = 52 := rfl
  omega
set_option maxHeartbeats 4000000 in
set_option maxRecDepth 100000 in
theorem c_X2_nearest (l : Launch) (x : Int32) (y : Int32) (gx : ny_R x) (gy : ny_R y) (g0 : ¬ y = 0) : Met l yX2_nearest wsX2_nearest ({ frames := 1, cells := 0, slots := 0, locals := 20 }) (va_Pc [.int x, .int y] (fun _ => True)) (vp_Si (fun r => r = f_nr x y)) 0 0 (fun _ => False) := by
  refine Met.ofW (cc := cX2_nearest) (maxL := 6) (ret := (some .int)) (by decide) rfl ?_
  intro p e s m args below meth c s₁ B hml hv
  obtain ⟨rfl, -⟩ := hv
  have hx := B.exec
  have hb := B.bytes
  have hr := B.returns
  have hts := atoms_spec (ws := wsX2_nearest) B.pre
  have hown : s.vm.findClass RX2 = some m.cls := findClass_of_methodNamed B.named
  have hlocks := B.notSynchronized
  have hl := lv_entry ([.int x, .int y]) (n := 6) (Nat.le_of_ble_eq_true rfl)
  rw [lg_entry_eq]
  generalize (lg_sl ([.int x, .int y]) ++ List.replicate (6 - (lg_sl ([.int x, .int y])).length) Slot.unset).toArray = ls at hl ⊢
  have hl : lv_has ls 6 [(0, .int x), (1, .int y)] := hl
  refine lv_iconst (v := 0) hx hb dX2_nearest_0 (by decide) ?_
  refine ny_ti (x2 := Int32.ofInt 0) (by decide) ?_
  refine lv_istore_n (lv' := [(2, .int (Int32.ofInt 0)), (0, .int x), (1, .int y)]) hx hb dX2_nearest_1 rfl hl (by decide) rfl (fun ls hl => ?_)
  refine lv_bipush (v := -127) hx hb dX2_nearest_2 (by decide) ?_
  refine ny_ti (x2 := Int32.ofInt (-127)) (by decide) ?_
  refine lv_istore_n (lv' := [(3, .int (Int32.ofInt (-127))), (2, .int (Int32.ofInt 0)), (0, .int x), (1, .int y)]) hx hb dX2_nearest_4 rfl hl (by decide) rfl (fun ls hl => ?_)
  refine ny_lp 5 6 (fun u : Int × Int => (-127 ≤ u.1 ∧ u.1 ≤ 128) ∧ (-127 ≤ u.2 ∧ u.2 ≤ 127) ∧ n_best x.toInt y.toInt u.1 u.2) (fun u => (128 - u.1).toNat) (fun u => [(0, .int x), (1, .int y), (2, .int (Int32.ofInt u.2)), (3, .int (Int32.ofInt u.1))]) (fun u hu ih ls hl => ?_) (-127, 0) (show (-127 ≤ (-127) ∧ (-127) ≤ 128) ∧ (-127 ≤ 0 ∧ 0 ≤ 127) ∧ n_best x.toInt y.toInt (-127) 0 from ⟨by decide, by decide, n_b0 _ _⟩) (lv_sub hl [2, 3, 1, 0] rfl)
  obtain ⟨n, f⟩ := u
  obtain ⟨hn, hf, hB⟩ : (-127 ≤ n ∧ n ≤ 128) ∧ (-127 ≤ f ∧ f ≤ 127) ∧ n_best x.toInt y.toInt n f := hu
  have hl : lv_has ls 6 [(0, .int x), (1, .int y), (2, .int (Int32.ofInt f)), (3, .int (Int32.ofInt n))] := hl
  refine lv_iload_n hx hb dX2_nearest_5 rfl (lv_at hl 3 rfl) ?_
  refine lv_bipush (v := 127) hx hb dX2_nearest_6 (by decide) ?_
  refine lv_icmp_gt (tgt := 63) hx hb dX2_nearest_8 (by decide) (fun c_8 => ?_) (fun c_8 => ?_)
  · refine lv_iload_n hx hb dX2_nearest_63 rfl (lv_at hl 2 rfl) ?_
    exact W.iret (v := Int32.ofInt f) hx hb hr (fun t ht hW => ⟨Int32.ofInt f, rfl, (n_nrE gx g0 (n_gt hn c_8) hf hB), ht⟩) (fun q hq => absurd hq List.not_mem_nil) dX2_nearest_64
  · have hn2 := n_ngt hn c_8
    refine lv_iload_n hx hb dX2_nearest_11 rfl (lv_at hl 0 rfl) ?_
    refine lv_iload_n hx hb dX2_nearest_12 rfl (lv_at hl 3 rfl) ?_
    refine lv_iload_n hx hb dX2_nearest_13 rfl (lv_at hl 1 rfl) ?_
    refine lv_imul hx hb dX2_nearest_14 ?_
    refine lv_isub hx hb dX2_nearest_15 ?_
    refine vp_callSi (va_Run.run (va_runS (As := [.int (x - ((Int32.ofInt n) * y))]) (rest := []) ⟨hx, hb, hml, hown, hts⟩ (c_X2_size l (x - ((Int32.ofInt n) * y))) (va_cwS 1 hts gX2_nearest_X2_size rfl rfl rfl (by decide +kernel) ⟨Nat.le_of_ble_eq_true rfl, Nat.le_of_ble_eq_true rfl⟩) ⟨ny_blindT, fun U hU hW => ⟨rfl, trivial⟩⟩ rfl rfl hl.1 rfl (lv_room (Nat.le_of_ble_eq_true rfl)) dX2_nearest_16 ⟨Nat.le_of_ble_eq_true rfl, Nat.le_of_ble_eq_true rfl⟩)) (fun r_16 hw_16 => ?_)
    have hw_16 : r_16 = ny_ab (x - ((Int32.ofInt n) * y)) := hw_16
    subst hw_16
    refine lv_topi (fun x4 e_x4 => ?_)
    have h4 : x4.toInt = ((x.toInt - n * y.toInt).natAbs : Int) := by rw [e_x4]; exact n_sz gx gy ⟨by omega, by omega⟩
    refine lv_istore (lv' := [(4, .int x4), (0, .int x), (1, .int y), (2, .int (Int32.ofInt f)), (3, .int (Int32.ofInt n))]) hx hb dX2_nearest_19 hl (by decide) rfl (fun ls hl => ?_)
    refine lv_iload_n hx hb dX2_nearest_21 rfl (lv_at hl 1 rfl) ?_
    refine lv_iload_n hx hb dX2_nearest_22 rfl (lv_at hl 3 rfl) ?_
    refine lv_iload_n hx hb dX2_nearest_23 rfl (lv_at hl 2 rfl) ?_
    refine lv_imul hx hb dX2_nearest_24 ?_
    refine lv_isub hx hb dX2_nearest_25 ?_
    refine vp_callSi (va_Run.run (va_runS (As := [.int (x - ((Int32.ofInt f) * y))]) (rest := []) ⟨hx, hb, hml, hown, hts⟩ (c_X2_size l (x - ((Int32.ofInt f) * y))) (va_cwS 1 hts gX2_nearest_X2_size rfl rfl rfl (by decide +kernel) ⟨Nat.le_of_ble_eq_true rfl, Nat.le_of_ble_eq_true rfl⟩) ⟨ny_blindT, fun U hU hW => ⟨rfl, trivial⟩⟩ rfl rfl hl.1 rfl (lv_room (Nat.le_of_ble_eq_true rfl)) dX2_nearest_26 ⟨Nat.le_of_ble_eq_true rfl, Nat.le_of_ble_eq_true rfl⟩)) (fun r_26 hw_26 => ?_)
    have hw_26 : r_26 = ny_ab (x - ((Int32.ofInt f) * y)) := hw_26
    subst hw_26
    refine lv_topi (fun x5 e_x5 => ?_)
    have h5 : x5.toInt = ((x.toInt - f * y.toInt).natAbs : Int) := by rw [e_x5]; exact n_sz gx gy ⟨by omega, by omega⟩
    refine lv_istore (lv' := [(5, .int x5), (4, .int x4), (0, .int x), (1, .int y), (2, .int (Int32.ofInt f)), (3, .int (Int32.ofInt n))]) hx hb dX2_nearest_29 hl (by decide) rfl (fun ls hl => ?_)
    refine lv_iload hx hb dX2_nearest_31 (lv_at hl 1 rfl) ?_
    refine lv_iload hx hb dX2_nearest_33 (lv_at hl 0 rfl) ?_
    refine lv_icmp_lt (tgt := 51) hx hb dX2_nearest_35 (by decide) (fun c_35 => ?_) (fun c_35 => ?_)
    · refine lv_iload_n hx hb dX2_nearest_51 rfl (lv_at hl 5 rfl) ?_
      refine lv_goto (tgt := 56) hx hb dX2_nearest_52 (by decide) ?_
      refine lv_istore_n (lv' := [(2, .int (Int32.ofInt n)), (5, .int x5), (4, .int x4), (0, .int x), (1, .int y), (3, .int (Int32.ofInt n))]) hx hb dX2_nearest_56 rfl hl (by decide) rfl (fun ls hl => ?_)
      refine lv_iinc (v := Int32.ofInt (n + 1)) (lv' := [(3, .int (Int32.ofInt (n + 1))), (2, .int (Int32.ofInt n)), (5, .int x5), (4, .int x4), (0, .int x), (1, .int y)]) hx hb dX2_nearest_57 hl (k := 5) rfl (n_inc n) (by decide) rfl (fun ls hl => ?_)
      refine lv_goto (tgt := 5) hx hb dX2_nearest_60 (by decide) ?_
      exact ih (n + 1, n) (show (-127 ≤ (n + 1) ∧ (n + 1) ≤ 128) ∧ (-127 ≤ n ∧ n ≤ 127) ∧ n_best x.toInt y.toInt (n + 1) n from ⟨by omega, by omega, n_b1 hB (by rw [fa_lt] at c_35; omega)⟩) (show (128 - (n + 1)).toNat < (128 - n).toNat by omega) _ (lv_sub hl [4, 5, 1, 0] rfl)
    · refine lv_iload hx hb dX2_nearest_38 (lv_at hl 1 rfl) ?_
      refine lv_iload hx hb dX2_nearest_40 (lv_at hl 0 rfl) ?_
      refine lv_icmp_ne (tgt := 55) hx hb dX2_nearest_42 (by decide) (fun c_42 => ?_) (fun c_42 => ?_)
      · refine lv_iload_n hx hb dX2_nearest_55 rfl (lv_at hl 4 rfl) ?_
        refine lv_istore_n (lv' := [(2, .int (Int32.ofInt f)), (5, .int x5), (4, .int x4), (0, .int x), (1, .int y), (3, .int (Int32.ofInt n))]) hx hb dX2_nearest_56 rfl hl (by decide) rfl (fun ls hl => ?_)
        refine lv_iinc (v := Int32.ofInt (n + 1)) (lv' := [(3, .int (Int32.ofInt (n + 1))), (2, .int (Int32.ofInt f)), (5, .int x5), (4, .int x4), (0, .int x), (1, .int y)]) hx hb dX2_nearest_57 hl (k := 5) rfl (n_inc n) (by decide) rfl (fun ls hl => ?_)
        refine lv_goto (tgt := 5) hx hb dX2_nearest_60 (by decide) ?_
        exact ih (n + 1, f) (show (-127 ≤ (n + 1) ∧ (n + 1) ≤ 128) ∧ (-127 ≤ f ∧ f ≤ 127) ∧ n_best x.toInt y.toInt (n + 1) f from ⟨by omega, by omega, n_b3 hB (by rw [fa_lt] at c_35; omega) (fun q => absurd (ny_eqI (by omega)) c_42)⟩) (show (128 - (n + 1)).toNat < (128 - n).toNat by omega) _ (lv_sub hl [4, 5, 1, 0] rfl)
      · refine lv_iload_n hx hb dX2_nearest_45 rfl (lv_at hl 5 rfl) ?_
        refine lv_iconst (v := 2) hx hb dX2_nearest_46 (by decide) ?_
        refine lv_irem hx hb dX2_nearest_47 (by decide) ?_
        refine lv_if_ne (tgt := 55) hx hb dX2_nearest_48 (by decide) (fun c_48 => ?_) (fun c_48 => ?_)
        · refine lv_iload_n hx hb dX2_nearest_55 rfl (lv_at hl 4 rfl) ?_
          refine lv_istore_n (lv' := [(2, .int (Int32.ofInt f)), (5, .int x5), (4, .int x4), (0, .int x), (1, .int y), (3, .int (Int32.ofInt n))]) hx hb dX2_nearest_56 rfl hl (by decide) rfl (fun ls hl => ?_)
          refine lv_iinc (v := Int32.ofInt (n + 1)) (lv' := [(3, .int (Int32.ofInt (n + 1))), (2, .int (Int32.ofInt f)), (5, .int x5), (4, .int x4), (0, .int x), (1, .int y)]) hx hb dX2_nearest_57 hl (k := 5) rfl (n_inc n) (by decide) rfl (fun ls hl => ?_)
          refine lv_goto (tgt := 5) hx hb dX2_nearest_60 (by decide) ?_
          exact ih (n + 1, f) (show (-127 ≤ (n + 1) ∧ (n + 1) ≤ 128) ∧ (-127 ≤ f ∧ f ≤ 127) ∧ n_best x.toInt y.toInt (n + 1) f from ⟨by omega, by omega, n_b3 hB (by rw [fa_lt] at c_35; omega) (fun _ q => c_48 ((n_ev ⟨by omega, by omega⟩).mpr q))⟩) (show (128 - (n + 1)).toNat < (128 - n).toNat by omega) _ (lv_sub hl [4, 5, 1, 0] rfl)
        · refine lv_iload_n hx hb dX2_nearest_51 rfl (lv_at hl 5 rfl) ?_
          refine lv_goto (tgt := 56) hx hb dX2_nearest_52 (by decide) ?_
          refine lv_istore_n (lv' := [(2, .int (Int32.ofInt n)), (5, .int x5), (4, .int x4), (0, .int x), (1, .int y), (3, .int (Int32.ofInt n))]) hx hb dX2_nearest_56 rfl hl (by decide) rfl (fun ls hl => ?_)
          refine lv_iinc (v := Int32.ofInt (n + 1)) (lv' := [(3, .int (Int32.ofInt (n + 1))), (2, .int (Int32.ofInt n)), (5, .int x5), (4, .int x4), (0, .int x), (1, .int y)]) hx hb dX2_nearest_57 hl (k := 5) rfl (n_inc n) (by decide) rfl (fun ls hl => ?_)
          refine lv_goto (tgt := 5) hx hb dX2_nearest_60 (by decide) ?_
          exact ih (n + 1, n) (show (-127 ≤ (n + 1) ∧ (n + 1) ≤ 128) ∧ (-127 ≤ n ∧ n ≤ 127) ∧ n_best x.toInt y.toInt (n + 1) n from ⟨by omega, by omega, n_b2 hB (by rw [fa_eq] at c_42; omega) ((n_ev ⟨by omega, by omega⟩).mp c_48)⟩) (show (128 - (n + 1)).toNat < (128 - n).toNat by omega) _ (lv_sub hl [4, 5, 1, 0] rfl)
set_option maxHeartbeats 4000000 in
set_option maxRecDepth 100000 in
theorem c_X2_residueOf (l : Launch) (v : Int64) (y : Int32) (gy : ny_R y) (g0 : ¬ y = 0) (gv : -1099511627776 ≤ v.toInt ∧ v.toInt ≤ 1099511627776) : Met l yX2_residueOf wsX2_residueOf ({ frames := 1, cells := 0, slots := 0, locals := 20 }) (va_Pc [.long v, .int y] (fun _ => True)) (vp_Si (fun r => r = f_rs v y)) 0 0 (fun _ => False) := by
  refine Met.ofW (cc := cX2_residueOf) (maxL := 5) (ret := (some .int)) (by decide) rfl ?_
  intro p e s m args below meth c s₁ B hml hv
  obtain ⟨rfl, -⟩ := hv
  have hx := B.exec
  have hb := B.bytes
  have hr := B.returns
  have hts := atoms_spec (ws := wsX2_residueOf) B.pre
  have hown : s.vm.findClass RX2 = some m.cls := findClass_of_methodNamed B.named
  have hlocks := B.notSynchronized
  have hl := lv_entry ([.long v, .int y]) (n := 5) (Nat.le_of_ble_eq_true rfl)
  rw [lg_entry_eq]
  generalize (lg_sl ([.long v, .int y]) ++ List.replicate (5 - (lg_sl ([.long v, .int y])).length) Slot.unset).toArray = ls at hl ⊢
  have hl : lv_has ls 5 [(0, .long v), (2, .int y)] := hl
  have gy1 : y.toInt.natAbs ≤ 127 := by unfold ny_R at gy; omega
  refine lv_iconst (v := 0) hx hb dX2_residueOf_0 (by decide) ?_
  refine ny_ti (x2 := Int32.ofInt (n_fd (ma_rs v.toInt y.toInt) (-127))) (congrArg Int32.ofInt (n_fd0 gy1 (ny_nz0 g0)).symm) ?_
  refine lv_istore_n (lv' := [(3, .int (Int32.ofInt (n_fd (ma_rs v.toInt y.toInt) (-127)))), (0, .long v), (2, .int y)]) hx hb dX2_residueOf_1 rfl hl (by decide) rfl (fun ls hl => ?_)
  refine lv_bipush (v := -127) hx hb dX2_residueOf_2 (by decide) ?_
  refine ny_ti (x2 := Int32.ofInt (-127)) (by decide) ?_
  refine lv_istore (lv' := [(4, .int (Int32.ofInt (-127))), (3, .int (Int32.ofInt (n_fd (ma_rs v.toInt y.toInt) (-127)))), (0, .long v), (2, .int y)]) hx hb dX2_residueOf_4 hl (by decide) rfl (fun ls hl => ?_)
  refine ny_lp 6 5 (fun u : Int => (-127 ≤ u ∧ u ≤ 128)) (fun u => (128 - u).toNat) (fun u => [(0, .long v), (2, .int y), (3, .int (Int32.ofInt (n_fd (ma_rs v.toInt y.toInt) u))), (4, .int (Int32.ofInt u))]) (fun u hu ih ls hl => ?_) (-127) (show (-127 ≤ (-127) ∧ (-127) ≤ 128) from by decide) (lv_sub hl [2, 3, 1, 0] rfl)
  obtain ⟨n, rfl⟩ : ∃ z, z = u := ⟨_, rfl⟩
  have hn : (-127 ≤ n ∧ n ≤ 128) := hu
  have hl : lv_has ls 5 [(0, .long v), (2, .int y), (3, .int (Int32.ofInt (n_fd (ma_rs v.toInt y.toInt) n))), (4, .int (Int32.ofInt n))] := hl
  refine lv_iload hx hb dX2_residueOf_6 (lv_at hl 3 rfl) ?_
  refine lv_bipush (v := 127) hx hb dX2_residueOf_8 (by decide) ?_
  refine lv_icmp_gt (tgt := 62) hx hb dX2_residueOf_10 (by decide) (fun c_10 => ?_) (fun c_10 => ?_)
  · refine lv_iload_n hx hb dX2_residueOf_62 rfl (lv_at hl 2 rfl) ?_
    exact W.iret (v := Int32.ofInt (n_fd (ma_rs v.toInt y.toInt) n)) hx hb hr (fun t ht hW => ⟨Int32.ofInt (n_fd (ma_rs v.toInt y.toInt) n), rfl, (congrArg Int32.ofInt (n_fdE gy1 (ny_nz0 g0) (n_gt hn c_10))), ht⟩) (fun q hq => absurd hq List.not_mem_nil) dX2_residueOf_63
  · have hn2 := n_ngt hn c_10
    refine lv_iconst (v := 2) hx hb dX2_residueOf_13 (by decide) ?_
    refine lv_iload hx hb dX2_residueOf_14 (lv_at hl 3 rfl) ?_
    refine lv_imul hx hb dX2_residueOf_16 ?_
    refine lv_iload_n hx hb dX2_residueOf_17 rfl (lv_at hl 1 rfl) ?_
    refine vp_callSi (va_Run.run (va_runS (As := [.int y]) (rest := [.int (2 * (Int32.ofInt n))]) ⟨hx, hb, hml, hown, hts⟩ (c_X2_size l y) (va_cwS 1 hts gX2_residueOf_X2_size rfl rfl rfl (by decide +kernel) ⟨Nat.le_of_ble_eq_true rfl, Nat.le_of_ble_eq_true rfl⟩) ⟨ny_blindT, fun U hU hW => ⟨rfl, trivial⟩⟩ rfl rfl hl.1 rfl (lv_room (Nat.le_of_ble_eq_true rfl)) dX2_residueOf_18 ⟨Nat.le_of_ble_eq_true rfl, Nat.le_of_ble_eq_true rfl⟩)) (fun r_18 hw_18 => ?_)
    have hw_18 : r_18 = ny_ab y := hw_18
    subst hw_18
    refine lv_ineg hx hb dX2_residueOf_21 ?_
    refine lv_icmp_le (tgt := 54) hx hb dX2_residueOf_22 (by decide) (fun c_22 => ?_) (fun c_22 => ?_)
    · refine lv_iload_n hx hb dX2_residueOf_54 rfl (lv_at hl 2 rfl) ?_
      refine ny_ti (x2 := Int32.ofInt (n_fd (ma_rs v.toInt y.toInt) (n + 1))) (congrArg Int32.ofInt (n_fd2 (fun q => ((n_rc gy g0 gv ⟨by omega, by omega⟩).mpr q).1 c_22))) ?_
      refine lv_istore_n (lv' := [(3, .int (Int32.ofInt (n_fd (ma_rs v.toInt y.toInt) (n + 1)))), (0, .long v), (2, .int y), (4, .int (Int32.ofInt n))]) hx hb dX2_residueOf_55 rfl hl (by decide) rfl (fun ls hl => ?_)
      refine lv_iinc (v := Int32.ofInt (n + 1)) (lv' := [(4, .int (Int32.ofInt (n + 1))), (3, .int (Int32.ofInt (n_fd (ma_rs v.toInt y.toInt) (n + 1)))), (0, .long v), (2, .int y)]) hx hb dX2_residueOf_56 hl (k := 3) rfl (n_inc n) (by decide) rfl (fun ls hl => ?_)
      refine lv_goto (tgt := 6) hx hb dX2_residueOf_59 (by decide) ?_
      exact ih (n + 1) (show (-127 ≤ (n + 1) ∧ (n + 1) ≤ 128) from ⟨by omega, by omega⟩) (show (128 - (n + 1)).toNat < (128 - n).toNat by omega) _ (lv_sub hl [2, 3, 1, 0] rfl)
    · refine lv_iconst (v := 2) hx hb dX2_residueOf_25 (by decide) ?_
      refine lv_iload hx hb dX2_residueOf_26 (lv_at hl 3 rfl) ?_
      refine lv_imul hx hb dX2_residueOf_28 ?_
      refine lv_iload_n hx hb dX2_residueOf_29 rfl (lv_at hl 1 rfl) ?_
      refine vp_callSi (va_Run.run (va_runS (As := [.int y]) (rest := [.int (2 * (Int32.ofInt n))]) ⟨hx, hb, hml, hown, hts⟩ (c_X2_size l y) (va_cwS 1 hts gX2_residueOf_X2_size rfl rfl rfl (by decide +kernel) ⟨Nat.le_of_ble_eq_true rfl, Nat.le_of_ble_eq_true rfl⟩) ⟨ny_blindT, fun U hU hW => ⟨rfl, trivial⟩⟩ rfl rfl hl.1 rfl (lv_room (Nat.le_of_ble_eq_true rfl)) dX2_residueOf_30 ⟨Nat.le_of_ble_eq_true rfl, Nat.le_of_ble_eq_true rfl⟩)) (fun r_30 hw_30 => ?_)
      have hw_30 : r_30 = ny_ab y := hw_30
      subst hw_30
      refine lv_icmp_gt (tgt := 54) hx hb dX2_residueOf_33 (by decide) (fun c_33 => ?_) (fun c_33 => ?_)
      · refine lv_iload_n hx hb dX2_residueOf_54 rfl (lv_at hl 2 rfl) ?_
        refine ny_ti (x2 := Int32.ofInt (n_fd (ma_rs v.toInt y.toInt) (n + 1))) (congrArg Int32.ofInt (n_fd2 (fun q => ((n_rc gy g0 gv ⟨by omega, by omega⟩).mpr q).2.1 c_33))) ?_
        refine lv_istore_n (lv' := [(3, .int (Int32.ofInt (n_fd (ma_rs v.toInt y.toInt) (n + 1)))), (0, .long v), (2, .int y), (4, .int (Int32.ofInt n))]) hx hb dX2_residueOf_55 rfl hl (by decide) rfl (fun ls hl => ?_)
        refine lv_iinc (v := Int32.ofInt (n + 1)) (lv' := [(4, .int (Int32.ofInt (n + 1))), (3, .int (Int32.ofInt (n_fd (ma_rs v.toInt y.toInt) (n + 1)))), (0, .long v), (2, .int y)]) hx hb dX2_residueOf_56 hl (k := 3) rfl (n_inc n) (by decide) rfl (fun ls hl => ?_)
        refine lv_goto (tgt := 6) hx hb dX2_residueOf_59 (by decide) ?_
        exact ih (n + 1) (show (-127 ≤ (n + 1) ∧ (n + 1) ≤ 128) from ⟨by omega, by omega⟩) (show (128 - (n + 1)).toNat < (128 - n).toNat by omega) _ (lv_sub hl [2, 3, 1, 0] rfl)
      · refine lv_lload_n hx hb dX2_residueOf_36 rfl (lv_at hl 0 rfl) ?_
        refine lv_iload hx hb dX2_residueOf_37 (lv_at hl 3 rfl) ?_
        refine lv_i2l hx hb dX2_residueOf_39 rfl ?_
        refine lv_lsub hx hb dX2_residueOf_40 ?_
        refine lv_iload_n hx hb dX2_residueOf_41 rfl (lv_at hl 1 rfl) ?_
        refine lv_i2l hx hb dX2_residueOf_42 rfl ?_
        refine lv_lrem hx hb dX2_residueOf_43 (n_l0 (ny_nz0 g0)) ?_
        refine lv_lconst (v := 0) hx hb dX2_residueOf_44 (by decide) ?_
        refine W.lcmp hx hb dX2_residueOf_45 ?_
        refine lv_if_ne (tgt := 54) hx hb dX2_residueOf_46 (by decide) (fun c_46 => ?_) (fun c_46 => ?_)
        · refine lv_iload_n hx hb dX2_residueOf_54 rfl (lv_at hl 2 rfl) ?_
          refine ny_ti (x2 := Int32.ofInt (n_fd (ma_rs v.toInt y.toInt) (n + 1))) (congrArg Int32.ofInt (n_fd2 (fun q => c_46 ((n_rc gy g0 gv ⟨by omega, by omega⟩).mpr q).2.2))) ?_
          refine lv_istore_n (lv' := [(3, .int (Int32.ofInt (n_fd (ma_rs v.toInt y.toInt) (n + 1)))), (0, .long v), (2, .int y), (4, .int (Int32.ofInt n))]) hx hb dX2_residueOf_55 rfl hl (by decide) rfl (fun ls hl => ?_)
          refine lv_iinc (v := Int32.ofInt (n + 1)) (lv' := [(4, .int (Int32.ofInt (n + 1))), (3, .int (Int32.ofInt (n_fd (ma_rs v.toInt y.toInt) (n + 1)))), (0, .long v), (2, .int y)]) hx hb dX2_residueOf_56 hl (k := 3) rfl (n_inc n) (by decide) rfl (fun ls hl => ?_)
          refine lv_goto (tgt := 6) hx hb dX2_residueOf_59 (by decide) ?_
          exact ih (n + 1) (show (-127 ≤ (n + 1) ∧ (n + 1) ≤ 128) from ⟨by omega, by omega⟩) (show (128 - (n + 1)).toNat < (128 - n).toNat by omega) _ (lv_sub hl [2, 3, 1, 0] rfl)
        · refine lv_iload hx hb dX2_residueOf_49 (lv_at hl 3 rfl) ?_
          refine lv_goto (tgt := 55) hx hb dX2_residueOf_51 (by decide) ?_
          refine ny_ti (x2 := Int32.ofInt (n_fd (ma_rs v.toInt y.toInt) (n + 1))) (congrArg Int32.ofInt (n_fd1 ((n_rc gy g0 gv ⟨by omega, by omega⟩).mp ⟨c_22, c_33, c_46⟩)).symm) ?_
          refine lv_istore_n (lv' := [(3, .int (Int32.ofInt (n_fd (ma_rs v.toInt y.toInt) (n + 1)))), (0, .long v), (2, .int y), (4, .int (Int32.ofInt n))]) hx hb dX2_residueOf_55 rfl hl (by decide) rfl (fun ls hl => ?_)
          refine lv_iinc (v := Int32.ofInt (n + 1)) (lv' := [(4, .int (Int32.ofInt (n + 1))), (3, .int (Int32.ofInt (n_fd (ma_rs v.toInt y.toInt) (n + 1)))), (0, .long v), (2, .int y)]) hx hb dX2_residueOf_56 hl (k := 3) rfl (n_inc n) (by decide) rfl (fun ls hl => ?_)
          refine lv_goto (tgt := 6) hx hb dX2_residueOf_59 (by decide) ?_
          exact ih (n + 1) (show (-127 ≤ (n + 1) ∧ (n + 1) ≤ 128) from ⟨by omega, by omega⟩) (show (128 - (n + 1)).toNat < (128 - n).toNat by omega) _ (lv_sub hl [2, 3, 1, 0] rfl)
set_option maxHeartbeats 4000000 in
set_option maxRecDepth 100000 in
theorem c_X2_measureOf (l : Launch) (x : Int32) (z : Int32) (gx : ny_R x) (gz : ny_R z) : Met l yX2_measureOf wsX2_measureOf ({ frames := 0, cells := 0, slots := 0, locals := 0 }) (va_Pc [.int x, .int z] (fun _ => True)) (vp_Si (fun r => r = f_gd x z)) 0 0 (fun _ => False) := by
  refine Met.ofW (cc := cX2_measureOf) (maxL := 3) (ret := (some .int)) (by decide) rfl ?_
  intro p e s m args below meth c s₁ B hml hv
  obtain ⟨rfl, -⟩ := hv
  have hx := B.exec
  have hb := B.bytes
  have hr := B.returns
  have hts := atoms_spec (ws := wsX2_measureOf) B.pre
  have hown : s.vm.findClass RX2 = some m.cls := findClass_of_methodNamed B.named
  have hlocks := B.notSynchronized
  have hl := lv_entry ([.int x, .int z]) (n := 3) (Nat.le_of_ble_eq_true rfl)
  rw [lg_entry_eq]
  generalize (lg_sl ([.int x, .int z]) ++ List.replicate (3 - (lg_sl ([.int x, .int z])).length) Slot.unset).toArray = ls at hl ⊢
  have hl : lv_has ls 3 [(0, .int x), (1, .int z)] := hl
  have gx1 : x.toInt.natAbs ≤ 127 := by unfold ny_R at gx; omega
  have gz1 : z.toInt.natAbs ≤ 127 := by unfold ny_R at gz; omega
  refine lv_iload_n hx hb dX2_measureOf_0 rfl (lv_at hl 0 rfl) ?_
  refine lv_if_ne (tgt := 12) hx hb dX2_measureOf_1 (by decide) (fun c_1 => ?_) (fun c_1 => ?_)
  · refine lv_bipush (v := 127) hx hb dX2_measureOf_12 (by decide) ?_
    have hnz : x.toInt ≠ 0 ∨ z.toInt ≠ 0 := Or.inl (ny_nz0 c_1)
    refine ny_ti (x2 := Int32.ofInt 127) (by decide) ?_
    refine lv_istore_n (lv' := [(2, .int (Int32.ofInt 127)), (0, .int x), (1, .int z)]) hx hb dX2_measureOf_14 rfl hl (by decide) rfl (fun ls hl => ?_)
    refine ny_lp 15 3 (fun u : Int => ((Int.gcd x.toInt z.toInt : Nat) : Int) ≤ u ∧ u ≤ 127 ∧ (Int.gcd x.toInt z.toInt = 0 → u = 0)) (fun u => u.toNat) (fun u => [(0, .int x), (1, .int z), (2, .int (Int32.ofInt u))]) (fun u hu ih ls hl => ?_) 127 (show ((Int.gcd x.toInt z.toInt : Nat) : Int) ≤ 127 ∧ 127 ≤ 127 ∧ (Int.gcd x.toInt z.toInt = 0 → 127 = 0) from ⟨by have := n_gle hnz gx1 gz1; omega, by decide, fun q => absurd q (by have := n_gpos hnz; omega)⟩) (lv_sub hl [1, 2, 0] rfl)
    obtain ⟨n, rfl⟩ : ∃ z, z = u := ⟨_, rfl⟩
    obtain ⟨hn1, hn2, hz⟩ : ((Int.gcd x.toInt z.toInt : Nat) : Int) ≤ n ∧ n ≤ 127 ∧ (Int.gcd x.toInt z.toInt = 0 → n = 0) := hu
    have hl : lv_has ls 3 [(0, .int x), (1, .int z), (2, .int (Int32.ofInt n))] := hl
    have h1 := n_oi (n := n) (by omega) (by omega)
    refine lv_iload_n hx hb dX2_measureOf_15 rfl (lv_at hl 2 rfl) ?_
    refine lv_if_le (tgt := 37) hx hb dX2_measureOf_16 (by decide) (fun c_16 => ?_) (fun c_16 => ?_)
    · refine lv_iload_n hx hb dX2_measureOf_37 rfl (lv_at hl 2 rfl) ?_
      exact W.iret (v := Int32.ofInt n) hx hb hr (fun t ht hW => ⟨Int32.ofInt n, rfl, (congrArg Int32.ofInt (by rw [fa_le, h1, ny_z0] at c_16; omega)), ht⟩) (fun q hq => absurd hq List.not_mem_nil) dX2_measureOf_38
    · have hn0 : 0 < n := by rw [fa_le, h1, ny_z0] at c_16; omega
      refine lv_iload_n hx hb dX2_measureOf_19 rfl (lv_at hl 0 rfl) ?_
      refine lv_iload_n hx hb dX2_measureOf_20 rfl (lv_at hl 2 rfl) ?_
      refine lv_irem hx hb dX2_measureOf_21 (by intro q; rw [fa_eq, h1, ny_z0] at q; rw [fa_le, h1, ny_z0] at c_16; omega) ?_
      refine lv_if_ne (tgt := 31) hx hb dX2_measureOf_22 (by decide) (fun c_22 => ?_) (fun c_22 => ?_)
      · refine lv_iinc (v := Int32.ofInt (n - 1)) (lv' := [(2, .int (Int32.ofInt (n - 1))), (0, .int x), (1, .int z)]) hx hb dX2_measureOf_31 hl (k := 2) rfl (n_dec n) (by decide) rfl (fun ls hl => ?_)
        refine lv_goto (tgt := 15) hx hb dX2_measureOf_34 (by decide) ?_
        exact ih (n - 1) (show ((Int.gcd x.toInt z.toInt : Nat) : Int) ≤ (n - 1) ∧ (n - 1) ≤ 127 ∧ (Int.gcd x.toInt z.toInt = 0 → (n - 1) = 0) from (by have hq : ¬ n = ((Int.gcd x.toInt z.toInt : Nat) : Int) := (fun q => c_22 ((n_rem0 gx ⟨by omega, by omega⟩).mpr (by rw [q]; exact Int.gcd_dvd_left ..))); exact ⟨by omega, by omega, fun q => absurd (hz q) (by omega)⟩)) (show (n - 1).toNat < n.toNat by omega) _ (lv_sub hl [1, 2, 0] rfl)
      · refine lv_iload_n hx hb dX2_measureOf_25 rfl (lv_at hl 1 rfl) ?_
        refine lv_iload_n hx hb dX2_measureOf_26 rfl (lv_at hl 2 rfl) ?_
        refine lv_irem hx hb dX2_measureOf_27 (by intro q; rw [fa_eq, h1, ny_z0] at q; rw [fa_le, h1, ny_z0] at c_16; omega) ?_
        refine lv_if_eq (tgt := 37) hx hb dX2_measureOf_28 (by decide) (fun c_28 => ?_) (fun c_28 => ?_)
        · refine lv_iload_n hx hb dX2_measureOf_37 rfl (lv_at hl 2 rfl) ?_
          exact W.iret (v := Int32.ofInt n) hx hb hr (fun t ht hW => ⟨Int32.ofInt n, rfl, (congrArg Int32.ofInt (n_gd1 hn1 (fun q => absurd (hz q) (by rw [fa_le, h1, ny_z0] at c_16; omega)) ((n_rem0 gx ⟨by omega, by omega⟩).mp c_22) ((n_rem0 gz ⟨by omega, by omega⟩).mp c_28))), ht⟩) (fun q hq => absurd hq List.not_mem_nil) dX2_measureOf_38
        · refine lv_iinc (v := Int32.ofInt (n - 1)) (lv' := [(2, .int (Int32.ofInt (n - 1))), (0, .int x), (1, .int z)]) hx hb dX2_measureOf_31 hl (k := 2) rfl (n_dec n) (by decide) rfl (fun ls hl => ?_)
          refine lv_goto (tgt := 15) hx hb dX2_measureOf_34 (by decide) ?_
          exact ih (n - 1) (show ((Int.gcd x.toInt z.toInt : Nat) : Int) ≤ (n - 1) ∧ (n - 1) ≤ 127 ∧ (Int.gcd x.toInt z.toInt = 0 → (n - 1) = 0) from (by have hq : ¬ n = ((Int.gcd x.toInt z.toInt : Nat) : Int) := (fun q => c_28 ((n_rem0 gz ⟨by omega, by omega⟩).mpr (by rw [q]; exact Int.gcd_dvd_right ..))); exact ⟨by omega, by omega, fun q => absurd (hz q) (by omega)⟩)) (show (n - 1).toNat < n.toNat by omega) _ (lv_sub hl [1, 2, 0] rfl)
  · refine lv_iload_n hx hb dX2_measureOf_4 rfl (lv_at hl 1 rfl) ?_
    refine lv_if_ne (tgt := 12) hx hb dX2_measureOf_5 (by decide) (fun c_5 => ?_) (fun c_5 => ?_)
    · refine lv_bipush (v := 127) hx hb dX2_measureOf_12 (by decide) ?_
      have hnz : x.toInt ≠ 0 ∨ z.toInt ≠ 0 := Or.inr (ny_nz0 c_5)
      refine ny_ti (x2 := Int32.ofInt 127) (by decide) ?_
      refine lv_istore_n (lv' := [(2, .int (Int32.ofInt 127)), (0, .int x), (1, .int z)]) hx hb dX2_measureOf_14 rfl hl (by decide) rfl (fun ls hl => ?_)
      refine ny_lp 15 3 (fun u : Int => ((Int.gcd x.toInt z.toInt : Nat) : Int) ≤ u ∧ u ≤ 127 ∧ (Int.gcd x.toInt z.toInt = 0 → u = 0)) (fun u => u.toNat) (fun u => [(0, .int x), (1, .int z), (2, .int (Int32.ofInt u))]) (fun u hu ih ls hl => ?_) 127 (show ((Int.gcd x.toInt z.toInt : Nat) : Int) ≤ 127 ∧ 127 ≤ 127 ∧ (Int.gcd x.toInt z.toInt = 0 → 127 = 0) from ⟨by have := n_gle hnz gx1 gz1; omega, by decide, fun q => absurd q (by have := n_gpos hnz; omega)⟩) (lv_sub hl [1, 2, 0] rfl)
      obtain ⟨n, rfl⟩ : ∃ z, z = u := ⟨_, rfl⟩
      obtain ⟨hn1, hn2, hz⟩ : ((Int.gcd x.toInt z.toInt : Nat) : Int) ≤ n ∧ n ≤ 127 ∧ (Int.gcd x.toInt z.toInt = 0 → n = 0) := hu
      have hl : lv_has ls 3 [(0, .int x), (1, .int z), (2, .int (Int32.ofInt n))] := hl
      have h1 := n_oi (n := n) (by omega) (by omega)
      refine lv_iload_n hx hb dX2_measureOf_15 rfl (lv_at hl 2 rfl) ?_
      refine lv_if_le (tgt := 37) hx hb dX2_measureOf_16 (by decide) (fun c_16 => ?_) (fun c_16 => ?_)
      · refine lv_iload_n hx hb dX2_measureOf_37 rfl (lv_at hl 2 rfl) ?_
        exact W.iret (v := Int32.ofInt n) hx hb hr (fun t ht hW => ⟨Int32.ofInt n, rfl, (congrArg Int32.ofInt (by rw [fa_le, h1, ny_z0] at c_16; omega)), ht⟩) (fun q hq => absurd hq List.not_mem_nil) dX2_measureOf_38
      · have hn0 : 0 < n := by rw [fa_le, h1, ny_z0] at c_16; omega
        refine lv_iload_n hx hb dX2_measureOf_19 rfl (lv_at hl 0 rfl) ?_
        refine lv_iload_n hx hb dX2_measureOf_20 rfl (lv_at hl 2 rfl) ?_
        refine lv_irem hx hb dX2_measureOf_21 (by intro q; rw [fa_eq, h1, ny_z0] at q; rw [fa_le, h1, ny_z0] at c_16; omega) ?_
        refine lv_if_ne (tgt := 31) hx hb dX2_measureOf_22 (by decide) (fun c_22 => ?_) (fun c_22 => ?_)
        · refine lv_iinc (v := Int32.ofInt (n - 1)) (lv' := [(2, .int (Int32.ofInt (n - 1))), (0, .int x), (1, .int z)]) hx hb dX2_measureOf_31 hl (k := 2) rfl (n_dec n) (by decide) rfl (fun ls hl => ?_)
          refine lv_goto (tgt := 15) hx hb dX2_measureOf_34 (by decide) ?_
          exact ih (n - 1) (show ((Int.gcd x.toInt z.toInt : Nat) : Int) ≤ (n - 1) ∧ (n - 1) ≤ 127 ∧ (Int.gcd x.toInt z.toInt = 0 → (n - 1) = 0) from (by have hq : ¬ n = ((Int.gcd x.toInt z.toInt : Nat) : Int) := (fun q => c_22 ((n_rem0 gx ⟨by omega, by omega⟩).mpr (by rw [q]; exact Int.gcd_dvd_left ..))); exact ⟨by omega, by omega, fun q => absurd (hz q) (by omega)⟩)) (show (n - 1).toNat < n.toNat by omega) _ (lv_sub hl [1, 2, 0] rfl)
        · refine lv_iload_n hx hb dX2_measureOf_25 rfl (lv_at hl 1 rfl) ?_
          refine lv_iload_n hx hb dX2_measureOf_26 rfl (lv_at hl 2 rfl) ?_
          refine lv_irem hx hb dX2_measureOf_27 (by intro q; rw [fa_eq, h1, ny_z0] at q; rw [fa_le, h1, ny_z0] at c_16; omega) ?_
          refine lv_if_eq (tgt := 37) hx hb dX2_measureOf_28 (by decide) (fun c_28 => ?_) (fun c_28 => ?_)
          · refine lv_iload_n hx hb dX2_measureOf_37 rfl (lv_at hl 2 rfl) ?_
            exact W.iret (v := Int32.ofInt n) hx hb hr (fun t ht hW => ⟨Int32.ofInt n, rfl, (congrArg Int32.ofInt (n_gd1 hn1 (fun q => absurd (hz q) (by rw [fa_le, h1, ny_z0] at c_16; omega)) ((n_rem0 gx ⟨by omega, by omega⟩).mp c_22) ((n_rem0 gz ⟨by omega, by omega⟩).mp c_28))), ht⟩) (fun q hq => absurd hq List.not_mem_nil) dX2_measureOf_38
          · refine lv_iinc (v := Int32.ofInt (n - 1)) (lv' := [(2, .int (Int32.ofInt (n - 1))), (0, .int x), (1, .int z)]) hx hb dX2_measureOf_31 hl (k := 2) rfl (n_dec n) (by decide) rfl (fun ls hl => ?_)
            refine lv_goto (tgt := 15) hx hb dX2_measureOf_34 (by decide) ?_
            exact ih (n - 1) (show ((Int.gcd x.toInt z.toInt : Nat) : Int) ≤ (n - 1) ∧ (n - 1) ≤ 127 ∧ (Int.gcd x.toInt z.toInt = 0 → (n - 1) = 0) from (by have hq : ¬ n = ((Int.gcd x.toInt z.toInt : Nat) : Int) := (fun q => c_28 ((n_rem0 gz ⟨by omega, by omega⟩).mpr (by rw [q]; exact Int.gcd_dvd_right ..))); exact ⟨by omega, by omega, fun q => absurd (hz q) (by omega)⟩)) (show (n - 1).toNat < n.toNat by omega) _ (lv_sub hl [1, 2, 0] rfl)
    · refine lv_iconst (v := 0) hx hb dX2_measureOf_8 (by decide) ?_
      refine lv_goto (tgt := 14) hx hb dX2_measureOf_9 (by decide) ?_
      have hg0 : Int.gcd x.toInt z.toInt = 0 := by rw [c_1, c_5]; rfl
      refine ny_ti (x2 := Int32.ofInt 0) (by decide) ?_
      refine lv_istore_n (lv' := [(2, .int (Int32.ofInt 0)), (0, .int x), (1, .int z)]) hx hb dX2_measureOf_14 rfl hl (by decide) rfl (fun ls hl => ?_)
      refine ny_lp 15 3 (fun u : Int => ((Int.gcd x.toInt z.toInt : Nat) : Int) ≤ u ∧ u ≤ 127 ∧ (Int.gcd x.toInt z.toInt = 0 → u = 0)) (fun u => u.toNat) (fun u => [(0, .int x), (1, .int z), (2, .int (Int32.ofInt u))]) (fun u hu ih ls hl => ?_) 0 (show ((Int.gcd x.toInt z.toInt : Nat) : Int) ≤ 0 ∧ 0 ≤ 127 ∧ (Int.gcd x.toInt z.toInt = 0 → 0 = 0) from ⟨by rw [hg0]; decide, by decide, fun _ => rfl⟩) (lv_sub hl [1, 2, 0] rfl)
      obtain ⟨n, rfl⟩ : ∃ z, z = u := ⟨_, rfl⟩
      obtain ⟨hn1, hn2, hz⟩ : ((Int.gcd x.toInt z.toInt : Nat) : Int) ≤ n ∧ n ≤ 127 ∧ (Int.gcd x.toInt z.toInt = 0 → n = 0) := hu
      have hl : lv_has ls 3 [(0, .int x), (1, .int z), (2, .int (Int32.ofInt n))] := hl
      have h1 := n_oi (n := n) (by omega) (by omega)
      refine lv_iload_n hx hb dX2_measureOf_15 rfl (lv_at hl 2 rfl) ?_
      refine lv_if_le (tgt := 37) hx hb dX2_measureOf_16 (by decide) (fun c_16 => ?_) (fun c_16 => ?_)
      · refine lv_iload_n hx hb dX2_measureOf_37 rfl (lv_at hl 2 rfl) ?_
        exact W.iret (v := Int32.ofInt n) hx hb hr (fun t ht hW => ⟨Int32.ofInt n, rfl, (congrArg Int32.ofInt (by rw [fa_le, h1, ny_z0] at c_16; omega)), ht⟩) (fun q hq => absurd hq List.not_mem_nil) dX2_measureOf_38
      · have hn0 : 0 < n := by rw [fa_le, h1, ny_z0] at c_16; omega
        refine lv_iload_n hx hb dX2_measureOf_19 rfl (lv_at hl 0 rfl) ?_
        refine lv_iload_n hx hb dX2_measureOf_20 rfl (lv_at hl 2 rfl) ?_
        refine lv_irem hx hb dX2_measureOf_21 (by intro q; rw [fa_eq, h1, ny_z0] at q; rw [fa_le, h1, ny_z0] at c_16; omega) ?_
        refine lv_if_ne (tgt := 31) hx hb dX2_measureOf_22 (by decide) (fun c_22 => ?_) (fun c_22 => ?_)
        · refine lv_iinc (v := Int32.ofInt (n - 1)) (lv' := [(2, .int (Int32.ofInt (n - 1))), (0, .int x), (1, .int z)]) hx hb dX2_measureOf_31 hl (k := 2) rfl (n_dec n) (by decide) rfl (fun ls hl => ?_)
          refine lv_goto (tgt := 15) hx hb dX2_measureOf_34 (by decide) ?_
          exact ih (n - 1) (show ((Int.gcd x.toInt z.toInt : Nat) : Int) ≤ (n - 1) ∧ (n - 1) ≤ 127 ∧ (Int.gcd x.toInt z.toInt = 0 → (n - 1) = 0) from (by have hq : ¬ n = ((Int.gcd x.toInt z.toInt : Nat) : Int) := (fun q => c_22 ((n_rem0 gx ⟨by omega, by omega⟩).mpr (by rw [q]; exact Int.gcd_dvd_left ..))); exact ⟨by omega, by omega, fun q => absurd (hz q) (by omega)⟩)) (show (n - 1).toNat < n.toNat by omega) _ (lv_sub hl [1, 2, 0] rfl)
        · refine lv_iload_n hx hb dX2_measureOf_25 rfl (lv_at hl 1 rfl) ?_
          refine lv_iload_n hx hb dX2_measureOf_26 rfl (lv_at hl 2 rfl) ?_
          refine lv_irem hx hb dX2_measureOf_27 (by intro q; rw [fa_eq, h1, ny_z0] at q; rw [fa_le, h1, ny_z0] at c_16; omega) ?_
          refine lv_if_eq (tgt := 37) hx hb dX2_measureOf_28 (by decide) (fun c_28 => ?_) (fun c_28 => ?_)
          · refine lv_iload_n hx hb dX2_measureOf_37 rfl (lv_at hl 2 rfl) ?_
            exact W.iret (v := Int32.ofInt n) hx hb hr (fun t ht hW => ⟨Int32.ofInt n, rfl, (congrArg Int32.ofInt (n_gd1 hn1 (fun q => absurd (hz q) (by rw [fa_le, h1, ny_z0] at c_16; omega)) ((n_rem0 gx ⟨by omega, by omega⟩).mp c_22) ((n_rem0 gz ⟨by omega, by omega⟩).mp c_28))), ht⟩) (fun q hq => absurd hq List.not_mem_nil) dX2_measureOf_38
          · refine lv_iinc (v := Int32.ofInt (n - 1)) (lv' := [(2, .int (Int32.ofInt (n - 1))), (0, .int x), (1, .int z)]) hx hb dX2_measureOf_31 hl (k := 2) rfl (n_dec n) (by decide) rfl (fun ls hl => ?_)
            refine lv_goto (tgt := 15) hx hb dX2_measureOf_34 (by decide) ?_
            exact ih (n - 1) (show ((Int.gcd x.toInt z.toInt : Nat) : Int) ≤ (n - 1) ∧ (n - 1) ≤ 127 ∧ (Int.gcd x.toInt z.toInt = 0 → (n - 1) = 0) from (by have hq : ¬ n = ((Int.gcd x.toInt z.toInt : Nat) : Int) := (fun q => c_28 ((n_rem0 gz ⟨by omega, by omega⟩).mpr (by rw [q]; exact Int.gcd_dvd_right ..))); exact ⟨by omega, by omega, fun q => absurd (hz q) (by omega)⟩)) (show (n - 1).toNat < n.toNat by omega) _ (lv_sub hl [1, 2, 0] rfl)
set_option maxHeartbeats 4000000 in
set_option maxRecDepth 100000 in
theorem c_X1_powerOf (l : Launch) (x : Int32) (n : Int32) (y : Int32) (gx : ny_R x) (gy : ny_R y) (g0 : ¬ y = 0) (gn : 0 ≤ n.toInt ∧ n.toInt ≤ 1000) : Met l yX1_powerOf wsX1_powerOf ({ frames := 2, cells := 0, slots := 0, locals := 48 }) (va_Pc [.int x, .int n, .int y] (fun _ => True)) (vp_Si (fun r => r = f_pw x n y)) 0 0 (fun _ => False) := by
  refine Met.ofW (cc := cX1_powerOf) (maxL := 5) (ret := (some .int)) (by decide) rfl ?_
  intro p e s m args below meth c s₁ B hml hv
  obtain ⟨rfl, -⟩ := hv
  have hx := B.exec
  have hb := B.bytes
  have hr := B.returns
  have hts := atoms_spec (ws := wsX1_powerOf) B.pre
  have hown : s.vm.findClass RX1 = some m.cls := findClass_of_methodNamed B.named
  have hlocks := B.notSynchronized
  have hl := lv_entry ([.int x, .int n, .int y]) (n := 5) (Nat.le_of_ble_eq_true rfl)
  rw [lg_entry_eq]
  generalize (lg_sl ([.int x, .int n, .int y]) ++ List.replicate (5 - (lg_sl ([.int x, .int n, .int y])).length) Slot.unset).toArray = ls at hl ⊢
  have hl : lv_has ls 5 [(0, .int x), (1, .int n), (2, .int y)] := hl
  refine lv_lconst (v := 1) hx hb dX1_powerOf_0 (by decide) ?_
  refine lv_iload_n hx hb dX1_powerOf_1 rfl (lv_at hl 2 rfl) ?_
  refine vp_callSi (va_Run.run (va_runS (As := [.long 1, .int y]) (rest := []) ⟨hx, hb, hml, hown, hts⟩ (c_X1_residueOf l 1 y (by assumption) (by assumption) (by decide)) (va_cwS 2 hts gX1_powerOf_X1_residueOf rfl rfl rfl (by decide +kernel) ⟨Nat.le_of_ble_eq_true rfl, Nat.le_of_ble_eq_true rfl⟩) ⟨ny_blindT, fun U hU hW => ⟨rfl, trivial⟩⟩ rfl rfl hl.1 rfl (lv_room (Nat.le_of_ble_eq_true rfl)) dX1_powerOf_2 ⟨Nat.le_of_ble_eq_true rfl, Nat.le_of_ble_eq_true rfl⟩)) (fun r_2 hw_2 => ?_)
  have hw_2 : r_2 = f_rs 1 y := hw_2
  subst hw_2
  refine ny_ti (x2 := Int32.ofInt (ma_rs (x.toInt ^ 0) y.toInt)) (by unfold f_rs; rw [Int.pow_zero]; rfl) ?_
  refine lv_istore_n (lv' := [(3, .int (Int32.ofInt (ma_rs (x.toInt ^ 0) y.toInt))), (0, .int x), (1, .int n), (2, .int y)]) hx hb dX1_powerOf_5 rfl hl (by decide) rfl (fun ls hl => ?_)
  refine lv_iconst (v := 0) hx hb dX1_powerOf_6 (by decide) ?_
  refine ny_ti (x2 := nI 0) (rfl) ?_
  refine lv_istore (lv' := [(4, .int (nI 0)), (3, .int (Int32.ofInt (ma_rs (x.toInt ^ 0) y.toInt))), (0, .int x), (1, .int n), (2, .int y)]) hx hb dX1_powerOf_7 hl (by decide) rfl (fun ls hl => ?_)
  refine ny_lp 9 5 (fun u : Nat => u ≤ n.toInt.toNat) (fun u => n.toInt.toNat - u) (fun u => [(0, .int x), (1, .int n), (2, .int y), (3, .int (Int32.ofInt (ma_rs (x.toInt ^ u) y.toInt))), (4, .int (nI u))]) (fun u hu ih ls hl => ?_) 0 (show 0 ≤ n.toInt.toNat from Nat.zero_le _) (lv_sub hl [2, 3, 4, 1, 0] rfl)
  obtain ⟨k, rfl⟩ : ∃ z, z = u := ⟨_, rfl⟩
  have hk : k ≤ n.toInt.toNat := hu
  have hl : lv_has ls 5 [(0, .int x), (1, .int n), (2, .int y), (3, .int (Int32.ofInt (ma_rs (x.toInt ^ k) y.toInt))), (4, .int (nI k))] := hl
  refine lv_iload hx hb dX1_powerOf_9 (lv_at hl 4 rfl) ?_
  refine lv_iload_n hx hb dX1_powerOf_11 rfl (lv_at hl 1 rfl) ?_
  refine lv_icmp_ge (tgt := 30) hx hb dX1_powerOf_12 (by decide) (fun c_12 => ?_) (fun c_12 => ?_)
  · refine lv_iload_n hx hb dX1_powerOf_30 rfl (lv_at hl 3 rfl) ?_
    exact W.iret (v := Int32.ofInt (ma_rs (x.toInt ^ k) y.toInt)) hx hb hr (fun t ht hW => ⟨Int32.ofInt (ma_rs (x.toInt ^ k) y.toInt), rfl, (n_pwE hk gn c_12), ht⟩) (fun q hq => absurd hq List.not_mem_nil) dX1_powerOf_31
  · have hk2 := n_pwC hk gn c_12
    refine lv_iload_n hx hb dX1_powerOf_15 rfl (lv_at hl 3 rfl) ?_
    refine lv_iload_n hx hb dX1_powerOf_16 rfl (lv_at hl 0 rfl) ?_
    refine lv_imul hx hb dX1_powerOf_17 ?_
    refine lv_i2l hx hb dX1_powerOf_18 rfl ?_
    refine lv_iload_n hx hb dX1_powerOf_19 rfl (lv_at hl 2 rfl) ?_
    refine vp_callSi (va_Run.run (va_runS (As := [.long (((Int32.ofInt (ma_rs (x.toInt ^ k) y.toInt)) * x).toInt64), .int y]) (rest := []) ⟨hx, hb, hml, hown, hts⟩ (c_X1_residueOf l (((Int32.ofInt (ma_rs (x.toInt ^ k) y.toInt)) * x).toInt64) y (by assumption) (by assumption) (n_lo _)) (va_cwS 2 hts gX1_powerOf_X1_residueOf rfl rfl rfl (by decide +kernel) ⟨Nat.le_of_ble_eq_true rfl, Nat.le_of_ble_eq_true rfl⟩) ⟨ny_blindT, fun U hU hW => ⟨rfl, trivial⟩⟩ rfl rfl hl.1 rfl (lv_room (Nat.le_of_ble_eq_true rfl)) dX1_powerOf_20 ⟨Nat.le_of_ble_eq_true rfl, Nat.le_of_ble_eq_true rfl⟩)) (fun r_20 hw_20 => ?_)
    have hw_20 : r_20 = f_rs (((Int32.ofInt (ma_rs (x.toInt ^ k) y.toInt)) * x).toInt64) y := hw_20
    subst hw_20
    refine ny_ti (x2 := Int32.ofInt (ma_rs (x.toInt ^ (k + 1)) y.toInt)) (n_pw gx gy g0 k) ?_
    refine lv_istore_n (lv' := [(3, .int (Int32.ofInt (ma_rs (x.toInt ^ (k + 1)) y.toInt))), (0, .int x), (1, .int n), (2, .int y), (4, .int (nI k))]) hx hb dX1_powerOf_23 rfl hl (by decide) rfl (fun ls hl => ?_)
    refine lv_iinc (v := nI (k + 1)) (lv' := [(4, .int (nI (k + 1))), (3, .int (Int32.ofInt (ma_rs (x.toInt ^ (k + 1)) y.toInt))), (0, .int x), (1, .int n), (2, .int y)]) hx hb dX1_powerOf_24 hl (k := 4) rfl (n_incN k) (by decide) rfl (fun ls hl => ?_)
    refine lv_goto (tgt := 9) hx hb dX1_powerOf_27 (by decide) ?_
    exact ih (k + 1) (show (k + 1) ≤ n.toInt.toNat from by omega) (show n.toInt.toNat - (k + 1) < n.toInt.toNat - k by omega) _ (lv_sub hl [2, 3, 4, 1, 0] rfl)
set_option maxHeartbeats 4000000 in
set_option maxRecDepth 100000 in
theorem c_X2_bitsOf (l : Launch) (h : Int32) (b : Int32) (gh : ny_R h) : Met l yX2_bitsOf wsX2_bitsOf ({ frames := 1, cells := 0, slots := 0, locals := 20 }) (va_Pc [.int h, .int b] (fun _ => True)) (vp_Sl (fun r => r = f_bt h b)) 0 0 (fun _ => False) := by
  refine Met.ofW (cc := cX2_bitsOf) (maxL := 8) (ret := (some .long)) (by decide) rfl ?_
  intro p e s m args below meth c s₁ B hml hv
  obtain ⟨rfl, -⟩ := hv
  have hx := B.exec
  have hb := B.bytes
  have hr := B.returns
  have hts := atoms_spec (ws := wsX2_bitsOf) B.pre
  have hown : s.vm.findClass RX2 = some m.cls := findClass_of_methodNamed B.named
  have hlocks := B.notSynchronized
  have hl := lv_entry ([.int h, .int b]) (n := 8) (Nat.le_of_ble_eq_true rfl)
  rw [lg_entry_eq]
  generalize (lg_sl ([.int h, .int b]) ++ List.replicate (8 - (lg_sl ([.int h, .int b])).length) Slot.unset).toArray = ls at hl ⊢
  have hl : lv_has ls 8 [(0, .int h), (1, .int b)] := hl
  refine lv_iload_n hx hb dX2_bitsOf_0 rfl (lv_at hl 0 rfl) ?_
  refine lv_if_ne (tgt := 16) hx hb dX2_bitsOf_1 (by decide) (fun c_1 => ?_) (fun c_1 => ?_)
  · have hN := n_Np gh c_1
    refine lv_iconst (v := 0) hx hb dX2_bitsOf_16 (by decide) ?_
    refine ny_ti (x2 := nI 0) (rfl) ?_
    refine lv_istore_n (lv' := [(2, .int (nI 0)), (0, .int h), (1, .int b)]) hx hb dX2_bitsOf_17 rfl hl (by decide) rfl (fun ls hl => ?_)
    refine lv_iconst (v := 1) hx hb dX2_bitsOf_18 (by decide) ?_
    refine ny_ti (x2 := nI (2 ^ 0)) (rfl) ?_
    refine lv_istore_n (lv' := [(3, .int (nI (2 ^ 0))), (2, .int (nI 0)), (0, .int h), (1, .int b)]) hx hb dX2_bitsOf_19 rfl hl (by decide) rfl (fun ls hl => ?_)
    refine ny_lp 20 8 (fun u : Nat => 2 ^ u ≤ h.toInt.natAbs) (fun u => 7 - u) (fun u => [(0, .int h), (1, .int b), (2, .int (nI u)), (3, .int (nI (2 ^ u)))]) (fun u hu ih ls hl => ?_) 0 (show 2 ^ 0 ≤ h.toInt.natAbs from hN.1) (lv_sub hl [2, 3, 1, 0] rfl)
    obtain ⟨j, rfl⟩ : ∃ z, z = u := ⟨_, rfl⟩
    have hj : 2 ^ j ≤ h.toInt.natAbs := hu
    have hl : lv_has ls 8 [(0, .int h), (1, .int b), (2, .int (nI j)), (3, .int (nI (2 ^ j)))] := hl
    obtain ⟨hj6, hj64, hjs⟩ := n_p2lt hj hN.2
    refine lv_iconst (v := 2) hx hb dX2_bitsOf_20 (by decide) ?_
    refine lv_iload_n hx hb dX2_bitsOf_21 rfl (lv_at hl 3 rfl) ?_
    refine lv_imul hx hb dX2_bitsOf_22 ?_
    refine lv_iload_n hx hb dX2_bitsOf_23 rfl (lv_at hl 0 rfl) ?_
    refine vp_callSi (va_Run.run (va_runS (As := [.int h]) (rest := [.int (2 * (nI (2 ^ j)))]) ⟨hx, hb, hml, hown, hts⟩ (c_X2_size l h) (va_cwS 1 hts gX2_bitsOf_X2_size rfl rfl rfl (by decide +kernel) ⟨Nat.le_of_ble_eq_true rfl, Nat.le_of_ble_eq_true rfl⟩) ⟨ny_blindT, fun U hU hW => ⟨rfl, trivial⟩⟩ rfl rfl hl.1 rfl (lv_room (Nat.le_of_ble_eq_true rfl)) dX2_bitsOf_24 ⟨Nat.le_of_ble_eq_true rfl, Nat.le_of_ble_eq_true rfl⟩)) (fun r_24 hw_24 => ?_)
    have hw_24 : r_24 = ny_ab h := hw_24
    subst hw_24
    refine lv_icmp_gt (tgt := 40) hx hb dX2_bitsOf_27 (by decide) (fun c_27 => ?_) (fun c_27 => ?_)
    · have hj2 : h.toInt.natAbs < 2 ^ (j + 1) := by rw [n_abN gh, n_2n, nI_ltI (by omega) (by omega)] at c_27; omega
      refine lv_ldc2 (own := RX2) (v := 1020) hx hb hown (hts (.constantLong RX2 41 (1020)) (List.mem_of_getElem? (i := 2) rfl)) dX2_bitsOf_40 ?_
      refine lv_iload_n hx hb dX2_bitsOf_43 rfl (lv_at hl 2 rfl) ?_
      refine lv_i2l hx hb dX2_bitsOf_44 rfl ?_
      refine lv_ladd hx hb dX2_bitsOf_45 ?_
      refine ny_tl (x2 := lN (1020 + j)) (n_btB (h := h) (by omega)) ?_
      refine lv_lstore (lv' := [(4, .long (lN (1020 + j))), (0, .int h), (1, .int b), (2, .int (nI j)), (3, .int (nI (2 ^ j)))]) hx hb dX2_bitsOf_46 hl (by decide) rfl (fun ls hl => ?_)
      refine lv_iload_n hx hb dX2_bitsOf_48 rfl (lv_at hl 1 rfl) ?_
      refine vp_callSi (va_Run.run (va_runS (As := [.int h]) (rest := []) ⟨hx, hb, hml, hown, hts⟩ (c_X2_size l h) (va_cwS 1 hts gX2_bitsOf_X2_size rfl rfl rfl (by decide +kernel) ⟨Nat.le_of_ble_eq_true rfl, Nat.le_of_ble_eq_true rfl⟩) ⟨ny_blindT, fun U hU hW => ⟨rfl, trivial⟩⟩ rfl rfl hl.1 rfl (lv_room (Nat.le_of_ble_eq_true rfl)) dX2_bitsOf_49 ⟨Nat.le_of_ble_eq_true rfl, Nat.le_of_ble_eq_true rfl⟩)) (fun r_49 hw_49 => ?_)
      have hw_49 : r_49 = ny_ab h := hw_49
      subst hw_49
      refine lv_iload_n hx hb dX2_bitsOf_52 rfl (lv_at hl 4 rfl) ?_
      refine lv_isub hx hb dX2_bitsOf_53 ?_
      refine ny_ti (x2 := nI (h.toInt.natAbs - 2 ^ j)) (by rw [n_abN gh]; exact pk_sub hj) ?_
      refine lv_istore (lv' := [(6, .int (nI (h.toInt.natAbs - 2 ^ j))), (4, .long (lN (1020 + j))), (0, .int h), (1, .int b), (2, .int (nI j)), (3, .int (nI (2 ^ j)))]) hx hb dX2_bitsOf_54 hl (by decide) rfl (fun ls hl => ?_)
      refine lv_iconst (v := 0) hx hb dX2_bitsOf_56 (by decide) ?_
      refine ny_ti (x2 := nI 0) (rfl) ?_
      refine lv_istore (lv' := [(7, .int (nI 0)), (6, .int (nI (h.toInt.natAbs - 2 ^ j))), (4, .long (lN (1020 + j))), (0, .int h), (1, .int b), (2, .int (nI j)), (3, .int (nI (2 ^ j)))]) hx hb dX2_bitsOf_57 hl (by decide) rfl (fun ls hl => ?_)
      refine ny_lp 59 8 (fun u : Nat × Nat × Nat => u.1 ≤ 52 ∧ u.2.2 < 2 ^ j ∧ u.2.1 * 2 ^ j + u.2.2 = 2 ^ u.1 * ((1020 + j) * 2 ^ j + (h.toInt.natAbs - 2 ^ j))) (fun u => 52 - u.1) (fun u => [(0, .int h), (1, .int b), (2, .int (nI j)), (3, .int (nI (2 ^ j))), (4, .long (lN u.2.1)), (6, .int (nI u.2.2)), (7, .int (nI u.1))]) (fun u hu ih ls hl => ?_) (0, 1020 + j, h.toInt.natAbs - 2 ^ j) (show 0 ≤ 52 ∧ (h.toInt.natAbs - 2 ^ j) < 2 ^ j ∧ (1020 + j) * 2 ^ j + (h.toInt.natAbs - 2 ^ j) = 2 ^ 0 * ((1020 + j) * 2 ^ j + (h.toInt.natAbs - 2 ^ j)) from ⟨by decide, by omega, by omega⟩) (lv_sub hl [3, 4, 5, 6, 2, 1, 0] rfl)
      obtain ⟨k, B, L⟩ := u
      obtain ⟨hk, hL, hI⟩ : k ≤ 52 ∧ L < 2 ^ j ∧ B * 2 ^ j + L = 2 ^ k * ((1020 + j) * 2 ^ j + (h.toInt.natAbs - 2 ^ j)) := hu
      have hl : lv_has ls 8 [(0, .int h), (1, .int b), (2, .int (nI j)), (3, .int (nI (2 ^ j))), (4, .long (lN B)), (6, .int (nI L)), (7, .int (nI k))] := hl
      have q1 := n_2n L
      refine lv_iload hx hb dX2_bitsOf_59 (lv_at hl 6 rfl) ?_
      refine lv_bipush (v := 52) hx hb dX2_bitsOf_61 (by decide) ?_
      refine lv_icmp_ge (tgt := 115) hx hb dX2_bitsOf_63 (by decide) (fun c_63 => ?_) (fun c_63 => ?_)
      · refine lv_iload_n hx hb dX2_bitsOf_115 rfl (lv_at hl 0 rfl) ?_
        refine lv_if_ge (tgt := 128) hx hb dX2_bitsOf_116 (by decide) (fun c_116 => ?_) (fun c_116 => ?_)
        · refine lv_lload hx hb dX2_bitsOf_128 (lv_at hl 4 rfl) ?_
          exact W.lret (v := lN B) hx hb hr (fun t ht hW => ⟨lN B, rfl, (n_btE1 c_1 c_116 (n_bfin hj hj2 hN.2 hL (by rw [n_ge52 hk c_63] at hI; exact hI))), ht⟩) (fun q hq => absurd hq List.not_mem_nil) dX2_bitsOf_130
        · refine lv_lload hx hb dX2_bitsOf_119 (lv_at hl 4 rfl) ?_
          refine lv_ldc2 (own := RX2) (v := -9223372036854775808) hx hb hown (hts (.constantLong RX2 35 (-9223372036854775808)) (List.mem_of_getElem? (i := 1) rfl)) dX2_bitsOf_121 ?_
          refine lv_ladd hx hb dX2_bitsOf_124 ?_
          refine lv_goto (tgt := 130) hx hb dX2_bitsOf_125 (by decide) ?_
          exact W.lret (v := (lN B) + (-9223372036854775808)) hx hb hr (fun t ht hW => ⟨(lN B) + (-9223372036854775808), rfl, (n_btE2 c_1 c_116 (n_bfin hj hj2 hN.2 hL (by rw [n_ge52 hk c_63] at hI; exact hI))), ht⟩) (fun q hq => absurd hq List.not_mem_nil) dX2_bitsOf_130
      · have hk2 := n_lt52 hk c_63
        refine lv_iload hx hb dX2_bitsOf_66 (lv_at hl 5 rfl) ?_
        refine lv_iconst (v := 2) hx hb dX2_bitsOf_68 (by decide) ?_
        refine lv_imul hx hb dX2_bitsOf_69 ?_
        refine ny_ti (x2 := nI (L * 2)) (n_n2 L) ?_
        refine lv_istore (lv' := [(6, .int (nI (L * 2))), (0, .int h), (1, .int b), (2, .int (nI j)), (3, .int (nI (2 ^ j))), (4, .long (lN B)), (7, .int (nI k))]) hx hb dX2_bitsOf_70 hl (by decide) rfl (fun ls hl => ?_)
        refine lv_ldc2 (own := RX2) (v := 2) hx hb hown (hts (.constantLong RX2 43 (2)) (List.mem_of_getElem? (i := 3) rfl)) dX2_bitsOf_72 ?_
        refine lv_lload hx hb dX2_bitsOf_75 (lv_at hl 5 rfl) ?_
        refine lv_lmul hx hb dX2_bitsOf_77 ?_
        refine lv_iload hx hb dX2_bitsOf_78 (lv_at hl 0 rfl) ?_
        refine lv_iload_n hx hb dX2_bitsOf_80 rfl (lv_at hl 4 rfl) ?_
        refine lv_icmp_lt (tgt := 88) hx hb dX2_bitsOf_81 (by decide) (fun c_81 => ?_) (fun c_81 => ?_)
        · have c9 : L * 2 < 2 ^ j := by rw [nI_ltI (by omega) (by omega)] at c_81; omega
          refine lv_lconst (v := 0) hx hb dX2_bitsOf_88 (by decide) ?_
          refine lv_ladd hx hb dX2_bitsOf_89 ?_
          refine ny_tl (x2 := lN (2 * B + 0)) (n_lB0 B) ?_
          refine lv_lstore (lv' := [(4, .long (lN (2 * B + 0))), (6, .int (nI (L * 2))), (0, .int h), (1, .int b), (2, .int (nI j)), (3, .int (nI (2 ^ j))), (7, .int (nI k))]) hx hb dX2_bitsOf_90 hl (by decide) rfl (fun ls hl => ?_)
          refine lv_iload hx hb dX2_bitsOf_92 (lv_at hl 1 rfl) ?_
          refine lv_iload_n hx hb dX2_bitsOf_94 rfl (lv_at hl 5 rfl) ?_
          refine lv_icmp_lt (tgt := 105) hx hb dX2_bitsOf_95 (by decide) (fun c_95 => ?_) (fun c_95 => absurd (show ((nI (L * 2)) : Int32) < (nI (2 ^ j)) from c_81) c_95)
          refine lv_iload hx hb dX2_bitsOf_105 (lv_at hl 1 rfl) ?_
          refine ny_ti (x2 := nI (L * 2)) (rfl) ?_
          refine lv_istore (lv' := [(6, .int (nI (L * 2))), (4, .long (lN (2 * B + 0))), (0, .int h), (1, .int b), (2, .int (nI j)), (3, .int (nI (2 ^ j))), (7, .int (nI k))]) hx hb dX2_bitsOf_107 hl (by decide) rfl (fun ls hl => ?_)
          refine lv_iinc (v := nI (k + 1)) (lv' := [(7, .int (nI (k + 1))), (6, .int (nI (L * 2))), (4, .long (lN (2 * B + 0))), (0, .int h), (1, .int b), (2, .int (nI j)), (3, .int (nI (2 ^ j)))]) hx hb dX2_bitsOf_109 hl (k := 6) rfl (n_incN k) (by decide) rfl (fun ls hl => ?_)
          refine lv_goto (tgt := 59) hx hb dX2_bitsOf_112 (by decide) ?_
          exact ih (k + 1, 2 * B + 0, L * 2) (show (k + 1) ≤ 52 ∧ (L * 2) < 2 ^ j ∧ (2 * B + 0) * 2 ^ j + (L * 2) = 2 ^ (k + 1) * ((1020 + j) * 2 ^ j + (h.toInt.natAbs - 2 ^ j)) from ⟨by omega, by omega, by have h9 := n_bst (d := 0) (Or.inl rfl) hI hL (by omega); rw [Nat.zero_mul, Nat.sub_zero] at h9; exact h9⟩) (show 52 - (k + 1) < 52 - k by omega) _ (lv_sub hl [3, 4, 5, 6, 2, 1, 0] rfl)
        · have c9 : 2 ^ j ≤ L * 2 := by rw [nI_ltI (by omega) (by omega)] at c_81; omega
          refine lv_lconst (v := 1) hx hb dX2_bitsOf_84 (by decide) ?_
          refine lv_goto (tgt := 89) hx hb dX2_bitsOf_85 (by decide) ?_
          refine lv_ladd hx hb dX2_bitsOf_89 ?_
          refine ny_tl (x2 := lN (2 * B + 1)) (n_lB1 B) ?_
          refine lv_lstore (lv' := [(4, .long (lN (2 * B + 1))), (6, .int (nI (L * 2))), (0, .int h), (1, .int b), (2, .int (nI j)), (3, .int (nI (2 ^ j))), (7, .int (nI k))]) hx hb dX2_bitsOf_90 hl (by decide) rfl (fun ls hl => ?_)
          refine lv_iload hx hb dX2_bitsOf_92 (lv_at hl 1 rfl) ?_
          refine lv_iload_n hx hb dX2_bitsOf_94 rfl (lv_at hl 5 rfl) ?_
          refine lv_icmp_lt (tgt := 105) hx hb dX2_bitsOf_95 (by decide) (fun c_95 => absurd c_95 (show ¬ (((nI (L * 2)) : Int32) < (nI (2 ^ j))) from c_81)) (fun c_95 => ?_)
          refine lv_iload hx hb dX2_bitsOf_98 (lv_at hl 1 rfl) ?_
          refine lv_iload_n hx hb dX2_bitsOf_100 rfl (lv_at hl 5 rfl) ?_
          refine lv_isub hx hb dX2_bitsOf_101 ?_
          refine lv_goto (tgt := 107) hx hb dX2_bitsOf_102 (by decide) ?_
          refine ny_ti (x2 := nI (L * 2 - 2 ^ j)) (pk_sub c9) ?_
          refine lv_istore (lv' := [(6, .int (nI (L * 2 - 2 ^ j))), (4, .long (lN (2 * B + 1))), (0, .int h), (1, .int b), (2, .int (nI j)), (3, .int (nI (2 ^ j))), (7, .int (nI k))]) hx hb dX2_bitsOf_107 hl (by decide) rfl (fun ls hl => ?_)
          refine lv_iinc (v := nI (k + 1)) (lv' := [(7, .int (nI (k + 1))), (6, .int (nI (L * 2 - 2 ^ j))), (4, .long (lN (2 * B + 1))), (0, .int h), (1, .int b), (2, .int (nI j)), (3, .int (nI (2 ^ j)))]) hx hb dX2_bitsOf_109 hl (k := 6) rfl (n_incN k) (by decide) rfl (fun ls hl => ?_)
          refine lv_goto (tgt := 59) hx hb dX2_bitsOf_112 (by decide) ?_
          exact ih (k + 1, 2 * B + 1, L * 2 - 2 ^ j) (show (k + 1) ≤ 52 ∧ (L * 2 - 2 ^ j) < 2 ^ j ∧ (2 * B + 1) * 2 ^ j + (L * 2 - 2 ^ j) = 2 ^ (k + 1) * ((1020 + j) * 2 ^ j + (h.toInt.natAbs - 2 ^ j)) from ⟨by omega, by omega, by have h9 := n_bst (d := 1) (Or.inr rfl) hI hL (by omega); rw [Nat.one_mul] at h9; exact h9⟩) (show 52 - (k + 1) < 52 - k by omega) _ (lv_sub hl [3, 4, 5, 6, 2, 1, 0] rfl)
    · have hj3 : 2 ^ (j + 1) ≤ h.toInt.natAbs := by rw [n_abN gh, n_2n, nI_ltI (by omega) (by omega)] at c_27; omega
      refine lv_iload_n hx hb dX2_bitsOf_30 rfl (lv_at hl 3 rfl) ?_
      refine lv_iconst (v := 2) hx hb dX2_bitsOf_31 (by decide) ?_
      refine lv_imul hx hb dX2_bitsOf_32 ?_
      refine ny_ti (x2 := nI (2 ^ (j + 1))) (by rw [n_n2, hjs, Nat.mul_comm]) ?_
      refine lv_istore_n (lv' := [(3, .int (nI (2 ^ (j + 1)))), (0, .int h), (1, .int b), (2, .int (nI j))]) hx hb dX2_bitsOf_33 rfl hl (by decide) rfl (fun ls hl => ?_)
      refine lv_iinc (v := nI (j + 1)) (lv' := [(2, .int (nI (j + 1))), (3, .int (nI (2 ^ (j + 1)))), (0, .int h), (1, .int b)]) hx hb dX2_bitsOf_34 hl (k := 3) rfl (n_incN j) (by decide) rfl (fun ls hl => ?_)
      refine lv_goto (tgt := 20) hx hb dX2_bitsOf_37 (by decide) ?_
      exact ih (j + 1) (show 2 ^ (j + 1) ≤ h.toInt.natAbs from by omega) (show 7 - (j + 1) < 7 - j by omega) _ (lv_sub hl [2, 3, 0, 1] rfl)
  · refine lv_iload_n hx hb dX2_bitsOf_4 rfl (lv_at hl 1 rfl) ?_
    refine lv_if_eq (tgt := 14) hx hb dX2_bitsOf_5 (by decide) (fun c_5 => ?_) (fun c_5 => ?_)
    · refine lv_lconst (v := 0) hx hb dX2_bitsOf_14 (by decide) ?_
      exact W.lret (v := 0) hx hb hr (fun t ht hW => ⟨0, rfl, (n_bt0 c_1 c_5), ht⟩) (fun q hq => absurd hq List.not_mem_nil) dX2_bitsOf_15
    · refine lv_ldc2 (own := RX2) (v := -9223372036854775808) hx hb hown (hts (.constantLong RX2 35 (-9223372036854775808)) (List.mem_of_getElem? (i := 1) rfl)) dX2_bitsOf_8 ?_
      refine lv_goto (tgt := 15) hx hb dX2_bitsOf_11 (by decide) ?_
      exact W.lret (v := -9223372036854775808) hx hb hr (fun t ht hW => ⟨-9223372036854775808, rfl, (n_bt1 c_1 c_5), ht⟩) (fun q hq => absurd hq List.not_mem_nil) dX2_bitsOf_15
set_option maxHeartbeats 4000000 in
set_option maxRecDepth 100000 in
theorem c_J6_numberOfLeadingZeros_0f7a4 (l : Launch) (x : Int32) (gx : 0 < x.toInt ∧ x.toInt ≤ 127) : Met l yJ6_numberOfLeadingZeros_0f7a4 wsJ6_numberOfLeadingZeros_0f7a4 ({ frames := 0, cells := 0, slots := 0, locals := 0 }) (va_Pc [.int x] (fun _ => True)) (vp_Si (fun r => r = nI (31 - x.toInt.toNat.log2))) 0 0 (fun _ => False) := by
  refine Met.ofW (cc := cJ6_numberOfLeadingZeros_0f7a4) (maxL := 2) (ret := (some .int)) (by decide) rfl ?_
  intro p e s m args below meth c s₁ B hml hv
  obtain ⟨rfl, -⟩ := hv
  have hx := B.exec
  have hb := B.bytes
  have hr := B.returns
  have hts := atoms_spec (ws := wsJ6_numberOfLeadingZeros_0f7a4) B.pre
  have hown : s.vm.findClass RJ6 = some m.cls := findClass_of_methodNamed B.named
  have hlocks := B.notSynchronized
  have hl := lv_entry ([.int x]) (n := 2) (Nat.le_of_ble_eq_true rfl)
  rw [lg_entry_eq]
  generalize (lg_sl ([.int x]) ++ List.replicate (2 - (lg_sl ([.int x])).length) Slot.unset).toArray = ls at hl ⊢
  have hl : lv_has ls 2 [(0, .int x)] := hl
  refine lv_iload_n hx hb dJ6_numberOfLeadingZeros_0f7a4_0 rfl (lv_at hl 0 rfl) ?_
  refine lv_if_gt (tgt := 15) hx hb dJ6_numberOfLeadingZeros_0f7a4_1 (by decide) (fun c_1 => ?_) (fun c_1 => absurd (show 0 < (x : Int32) by  rw [fa_lt, ny_z0]; omega) c_1)
  refine lv_bipush (v := 31) hx hb dJ6_numberOfLeadingZeros_0f7a4_15 (by decide) ?_
  refine lv_istore_n (lv' := [(1, .int 31), (0, .int x)]) hx hb dJ6_numberOfLeadingZeros_0f7a4_17 rfl hl (by decide) rfl (fun ls hl => ?_)
  refine lv_iload_n hx hb dJ6_numberOfLeadingZeros_0f7a4_18 rfl (lv_at hl 1 rfl) ?_
  refine lv_ldcw (own := RJ6) (v := 65536) hx hb hown (hts (.constant RJ6 264 (65536)) (List.mem_of_getElem? (i := 1) rfl)) dJ6_numberOfLeadingZeros_0f7a4_19 ?_
  refine lv_icmp_lt (tgt := 33) hx hb dJ6_numberOfLeadingZeros_0f7a4_22 (by decide) (fun c_22 => ?_) (fun c_22 => absurd (show (x : Int32) < 65536 by  have z : (65536 : Int32).toInt = 65536 := rfl; rw [fa_lt]; omega) c_22)
  refine lv_iload_n hx hb dJ6_numberOfLeadingZeros_0f7a4_33 rfl (lv_at hl 1 rfl) ?_
  refine lv_sipush (v := 256) hx hb dJ6_numberOfLeadingZeros_0f7a4_34 (by decide) ?_
  refine lv_icmp_lt (tgt := 48) hx hb dJ6_numberOfLeadingZeros_0f7a4_37 (by decide) (fun c_37 => ?_) (fun c_37 => absurd (show (x : Int32) < 256 by  have z : (256 : Int32).toInt = 256 := rfl; rw [fa_lt]; omega) c_37)
  refine lv_iload_n hx hb dJ6_numberOfLeadingZeros_0f7a4_48 rfl (lv_at hl 1 rfl) ?_
  refine lv_bipush (v := 16) hx hb dJ6_numberOfLeadingZeros_0f7a4_49 (by decide) ?_
  refine lv_icmp_lt (tgt := 61) hx hb dJ6_numberOfLeadingZeros_0f7a4_51 (by decide) (fun c_51 => ?_) (fun c_51 => ?_)
  · refine lv_iload_n hx hb dJ6_numberOfLeadingZeros_0f7a4_61 rfl (lv_at hl 1 rfl) ?_
    refine lv_iconst (v := 4) hx hb dJ6_numberOfLeadingZeros_0f7a4_62 (by decide) ?_
    refine lv_icmp_lt (tgt := 73) hx hb dJ6_numberOfLeadingZeros_0f7a4_63 (by decide) (fun c_63 => ?_) (fun c_63 => ?_)
    · refine lv_iload_n hx hb dJ6_numberOfLeadingZeros_0f7a4_73 rfl (lv_at hl 0 rfl) ?_
      refine lv_iload_n hx hb dJ6_numberOfLeadingZeros_0f7a4_74 rfl (lv_at hl 1 rfl) ?_
      refine lv_iconst (v := 1) hx hb dJ6_numberOfLeadingZeros_0f7a4_75 (by decide) ?_
      refine lv_iushr hx hb dJ6_numberOfLeadingZeros_0f7a4_76 rfl ?_
      refine lv_isub hx hb dJ6_numberOfLeadingZeros_0f7a4_77 ?_
      exact W.iret (v := 31 - ((x.toUInt32 >>> ((1 : Int32).toUInt32 &&& Int32.toUInt32 31)).toInt32)) hx hb hr (fun t ht hW => ⟨31 - ((x.toUInt32 >>> ((1 : Int32).toUInt32 &&& Int32.toUInt32 31)).toInt32), rfl, (by obtain ⟨n, hn, hn0, rfl⟩ := n_N gx; exact (by decide +kernel : ∀ n : Nat, n < 128 → 0 < n → (nI n) < 16 → (nI n) < 4 → 31 - (((nI n).toUInt32 >>> ((1 : Int32).toUInt32 &&& Int32.toUInt32 31)).toInt32) = nI (31 - (nI n).toInt.toNat.log2)) n hn hn0 c_51 c_63), ht⟩) (fun q hq => absurd hq List.not_mem_nil) dJ6_numberOfLeadingZeros_0f7a4_78
    · refine lv_iinc (v := 31 + (-2)) (lv' := [(1, .int (31 + (-2))), (0, .int x)]) hx hb dJ6_numberOfLeadingZeros_0f7a4_66 hl (k := 0) rfl (rfl) (by decide) rfl (fun ls hl => ?_)
      refine lv_iload_n hx hb dJ6_numberOfLeadingZeros_0f7a4_69 rfl (lv_at hl 1 rfl) ?_
      refine lv_iconst (v := 2) hx hb dJ6_numberOfLeadingZeros_0f7a4_70 (by decide) ?_
      refine lv_iushr hx hb dJ6_numberOfLeadingZeros_0f7a4_71 rfl ?_
      refine lv_istore_n (lv' := [(0, .int ((x.toUInt32 >>> ((2 : Int32).toUInt32 &&& Int32.toUInt32 31)).toInt32)), (1, .int (31 + (-2)))]) hx hb dJ6_numberOfLeadingZeros_0f7a4_72 rfl hl (by decide) rfl (fun ls hl => ?_)
      refine lv_iload_n hx hb dJ6_numberOfLeadingZeros_0f7a4_73 rfl (lv_at hl 1 rfl) ?_
      refine lv_iload_n hx hb dJ6_numberOfLeadingZeros_0f7a4_74 rfl (lv_at hl 0 rfl) ?_
      refine lv_iconst (v := 1) hx hb dJ6_numberOfLeadingZeros_0f7a4_75 (by decide) ?_
      refine lv_iushr hx hb dJ6_numberOfLeadingZeros_0f7a4_76 rfl ?_
      refine lv_isub hx hb dJ6_numberOfLeadingZeros_0f7a4_77 ?_
      exact W.iret (v := (31 + (-2)) - ((((x.toUInt32 >>> ((2 : Int32).toUInt32 &&& Int32.toUInt32 31)).toInt32).toUInt32 >>> ((1 : Int32).toUInt32 &&& Int32.toUInt32 31)).toInt32)) hx hb hr (fun t ht hW => ⟨(31 + (-2)) - ((((x.toUInt32 >>> ((2 : Int32).toUInt32 &&& Int32.toUInt32 31)).toInt32).toUInt32 >>> ((1 : Int32).toUInt32 &&& Int32.toUInt32 31)).toInt32), rfl, (by obtain ⟨n, hn, hn0, rfl⟩ := n_N gx; exact (by decide +kernel : ∀ n : Nat, n < 128 → 0 < n → (nI n) < 16 → ¬ ((nI n) < 4) → (31 + (-2)) - (((((nI n).toUInt32 >>> ((2 : Int32).toUInt32 &&& Int32.toUInt32 31)).toInt32).toUInt32 >>> ((1 : Int32).toUInt32 &&& Int32.toUInt32 31)).toInt32) = nI (31 - (nI n).toInt.toNat.log2)) n hn hn0 c_51 c_63), ht⟩) (fun q hq => absurd hq List.not_mem_nil) dJ6_numberOfLeadingZeros_0f7a4_78
  · refine lv_iinc (v := 31 + (-4)) (lv' := [(1, .int (31 + (-4))), (0, .int x)]) hx hb dJ6_numberOfLeadingZeros_0f7a4_54 hl (k := 0) rfl (rfl) (by decide) rfl (fun ls hl => ?_)
    refine lv_iload_n hx hb dJ6_numberOfLeadingZeros_0f7a4_57 rfl (lv_at hl 1 rfl) ?_
    refine lv_iconst (v := 4) hx hb dJ6_numberOfLeadingZeros_0f7a4_58 (by decide) ?_
    refine lv_iushr hx hb dJ6_numberOfLeadingZeros_0f7a4_59 rfl ?_
    refine lv_istore_n (lv' := [(0, .int ((x.toUInt32 >>> ((4 : Int32).toUInt32 &&& Int32.toUInt32 31)).toInt32)), (1, .int (31 + (-4)))]) hx hb dJ6_numberOfLeadingZeros_0f7a4_60 rfl hl (by decide) rfl (fun ls hl => ?_)
    refine lv_iload_n hx hb dJ6_numberOfLeadingZeros_0f7a4_61 rfl (lv_at hl 0 rfl) ?_
    refine lv_iconst (v := 4) hx hb dJ6_numberOfLeadingZeros_0f7a4_62 (by decide) ?_
    refine lv_icmp_lt (tgt := 73) hx hb dJ6_numberOfLeadingZeros_0f7a4_63 (by decide) (fun c_63 => ?_) (fun c_63 => ?_)
    · refine lv_iload_n hx hb dJ6_numberOfLeadingZeros_0f7a4_73 rfl (lv_at hl 1 rfl) ?_
      refine lv_iload_n hx hb dJ6_numberOfLeadingZeros_0f7a4_74 rfl (lv_at hl 0 rfl) ?_
      refine lv_iconst (v := 1) hx hb dJ6_numberOfLeadingZeros_0f7a4_75 (by decide) ?_
      refine lv_iushr hx hb dJ6_numberOfLeadingZeros_0f7a4_76 rfl ?_
      refine lv_isub hx hb dJ6_numberOfLeadingZeros_0f7a4_77 ?_
      exact W.iret (v := (31 + (-4)) - ((((x.toUInt32 >>> ((4 : Int32).toUInt32 &&& Int32.toUInt32 31)).toInt32).toUInt32 >>> ((1 : Int32).toUInt32 &&& Int32.toUInt32 31)).toInt32)) hx hb hr (fun t ht hW => ⟨(31 + (-4)) - ((((x.toUInt32 >>> ((4 : Int32).toUInt32 &&& Int32.toUInt32 31)).toInt32).toUInt32 >>> ((1 : Int32).toUInt32 &&& Int32.toUInt32 31)).toInt32), rfl, (by obtain ⟨n, hn, hn0, rfl⟩ := n_N gx; exact (by decide +kernel : ∀ n : Nat, n < 128 → 0 < n → ¬ ((nI n) < 16) → (((nI n).toUInt32 >>> ((4 : Int32).toUInt32 &&& Int32.toUInt32 31)).toInt32) < 4 → (31 + (-4)) - (((((nI n).toUInt32 >>> ((4 : Int32).toUInt32 &&& Int32.toUInt32 31)).toInt32).toUInt32 >>> ((1 : Int32).toUInt32 &&& Int32.toUInt32 31)).toInt32) = nI (31 - (nI n).toInt.toNat.log2)) n hn hn0 c_51 c_63), ht⟩) (fun q hq => absurd hq List.not_mem_nil) dJ6_numberOfLeadingZeros_0f7a4_78
    · refine lv_iinc (v := (31 + (-4)) + (-2)) (lv' := [(1, .int ((31 + (-4)) + (-2))), (0, .int ((x.toUInt32 >>> ((4 : Int32).toUInt32 &&& Int32.toUInt32 31)).toInt32))]) hx hb dJ6_numberOfLeadingZeros_0f7a4_66 hl (k := 1) rfl (rfl) (by decide) rfl (fun ls hl => ?_)
      refine lv_iload_n hx hb dJ6_numberOfLeadingZeros_0f7a4_69 rfl (lv_at hl 1 rfl) ?_
      refine lv_iconst (v := 2) hx hb dJ6_numberOfLeadingZeros_0f7a4_70 (by decide) ?_
      refine lv_iushr hx hb dJ6_numberOfLeadingZeros_0f7a4_71 rfl ?_
      refine lv_istore_n (lv' := [(0, .int ((((x.toUInt32 >>> ((4 : Int32).toUInt32 &&& Int32.toUInt32 31)).toInt32).toUInt32 >>> ((2 : Int32).toUInt32 &&& Int32.toUInt32 31)).toInt32)), (1, .int ((31 + (-4)) + (-2)))]) hx hb dJ6_numberOfLeadingZeros_0f7a4_72 rfl hl (by decide) rfl (fun ls hl => ?_)
      refine lv_iload_n hx hb dJ6_numberOfLeadingZeros_0f7a4_73 rfl (lv_at hl 1 rfl) ?_
      refine lv_iload_n hx hb dJ6_numberOfLeadingZeros_0f7a4_74 rfl (lv_at hl 0 rfl) ?_
      refine lv_iconst (v := 1) hx hb dJ6_numberOfLeadingZeros_0f7a4_75 (by decide) ?_
      refine lv_iushr hx hb dJ6_numberOfLeadingZeros_0f7a4_76 rfl ?_
      refine lv_isub hx hb dJ6_numberOfLeadingZeros_0f7a4_77 ?_
      exact W.iret (v := ((31 + (-4)) + (-2)) - ((((((x.toUInt32 >>> ((4 : Int32).toUInt32 &&& Int32.toUInt32 31)).toInt32).toUInt32 >>> ((2 : Int32).toUInt32 &&& Int32.toUInt32 31)).toInt32).toUInt32 >>> ((1 : Int32).toUInt32 &&& Int32.toUInt32 31)).toInt32)) hx hb hr (fun t ht hW => ⟨((31 + (-4)) + (-2)) - ((((((x.toUInt32 >>> ((4 : Int32).toUInt32 &&& Int32.toUInt32 31)).toInt32).toUInt32 >>> ((2 : Int32).toUInt32 &&& Int32.toUInt32 31)).toInt32).toUInt32 >>> ((1 : Int32).toUInt32 &&& Int32.toUInt32 31)).toInt32), rfl, (by obtain ⟨n, hn, hn0, rfl⟩ := n_N gx; exact (by decide +kernel : ∀ n : Nat, n < 128 → 0 < n → ¬ ((nI n) < 16) → ¬ ((((nI n).toUInt32 >>> ((4 : Int32).toUInt32 &&& Int32.toUInt32 31)).toInt32) < 4) → ((31 + (-4)) + (-2)) - (((((((nI n).toUInt32 >>> ((4 : Int32).toUInt32 &&& Int32.toUInt32 31)).toInt32).toUInt32 >>> ((2 : Int32).toUInt32 &&& Int32.toUInt32 31)).toInt32).toUInt32 >>> ((1 : Int32).toUInt32 &&& Int32.toUInt32 31)).toInt32) = nI (31 - (nI n).toInt.toNat.log2)) n hn hn0 c_51 c_63), ht⟩) (fun q hq => absurd hq List.not_mem_nil) dJ6_numberOfLeadingZeros_0f7a4_78

/-! SPEC: what the methods answer, in Int32 and Int64, and the plain facts of these. The fa_ and fb_ rows are pasted from the laws given for it. -/
theorem fb_rng (x : Int32) : -2147483648 ≤ x.toInt ∧ x.toInt < 2147483648 := by
  have h1 := Int32.le_toInt x
  have h2 := Int32.toInt_lt x
  omega
theorem fb_bmod {z : Int} (h1 : -2147483648 ≤ z) (h2 : z < 2147483648) : z.bmod (2 ^ 32) = z := by
  rw [Int.bmod_eq_of_le (by omega) (by omega)]
theorem fb_addI {x y : Int32} (h1 : -2147483648 ≤ x.toInt + y.toInt) (h2 : x.toInt + y.toInt < 2147483648) : (x + y).toInt = x.toInt + y.toInt := by
  rw [Int32.toInt_add, fb_bmod h1 h2]
theorem fb_subI {x y : Int32} (h1 : -2147483648 ≤ x.toInt - y.toInt) (h2 : x.toInt - y.toInt < 2147483648) : (x - y).toInt = x.toInt - y.toInt := by
  rw [Int32.toInt_sub, fb_bmod h1 h2]
theorem fb_mulI {x y : Int32} (h1 : -2147483648 ≤ x.toInt * y.toInt) (h2 : x.toInt * y.toInt < 2147483648) : (x * y).toInt = x.toInt * y.toInt := by
  rw [Int32.toInt_mul, fb_bmod h1 h2]
theorem fb_negI {x : Int32} (h : x.toInt ≠ -2147483648) : (-x).toInt = -x.toInt := by
  have := fb_rng x
  rw [Int32.toInt_neg, fb_bmod (by omega) (by omega)]
theorem fb_ofI {z : Int} (h1 : -2147483648 ≤ z) (h2 : z < 2147483648) : (Int32.ofInt z).toInt = z := by
  rw [Int32.toInt_ofInt, fb_bmod h1 h2]
theorem fb_asI (x : Int32) : Int32.ofInt x.toInt = x := Int32.ofInt_toInt x
theorem fb_rngL (x : Int64) : -9223372036854775808 ≤ x.toInt ∧ x.toInt < 9223372036854775808 := by
  have h1 := Int64.le_toInt x
  have h2 := Int64.toInt_lt x
  omega
theorem fb_bmodL {z : Int} (h1 : -9223372036854775808 ≤ z) (h2 : z < 9223372036854775808) : z.bmod (2 ^ 64) = z := by
  rw [Int.bmod_eq_of_le (by omega) (by omega)]
theorem fb_addL {x y : Int64} (h1 : -9223372036854775808 ≤ x.toInt + y.toInt) (h2 : x.toInt + y.toInt < 9223372036854775808) : (x + y).toInt = x.toInt + y.toInt := by
  rw [Int64.toInt_add, fb_bmodL h1 h2]
theorem fb_subL {x y : Int64} (h1 : -9223372036854775808 ≤ x.toInt - y.toInt) (h2 : x.toInt - y.toInt < 9223372036854775808) : (x - y).toInt = x.toInt - y.toInt := by
  rw [Int64.toInt_sub, fb_bmodL h1 h2]
theorem fb_mulL {x y : Int64} (h1 : -9223372036854775808 ≤ x.toInt * y.toInt) (h2 : x.toInt * y.toInt < 9223372036854775808) : (x * y).toInt = x.toInt * y.toInt := by
  rw [Int64.toInt_mul, fb_bmodL h1 h2]
theorem fa_lt (a b : Int32) : a < b ↔ a.toInt < b.toInt := Int32.lt_iff_toInt_lt
theorem fa_le (a b : Int32) : a ≤ b ↔ a.toInt ≤ b.toInt := Int32.le_iff_toInt_le
theorem fa_eq (a b : Int32) : a = b ↔ a.toInt = b.toInt := Int32.toInt_inj.symm
theorem fa_lt64 (a b : Int64) : a < b ↔ a.toInt < b.toInt := Int64.lt_iff_toInt_lt
theorem fa_le64 (a b : Int64) : a ≤ b ↔ a.toInt ≤ b.toInt := Int64.le_iff_toInt_le
theorem fa_eq64 (a b : Int64) : a = b ↔ a.toInt = b.toInt := Int64.toInt_inj.symm
theorem ny_eqI {a b : Int32} (h : a.toInt = b.toInt) : a = b := Int32.toInt_inj.mp h
theorem ny_z0 : (0 : Int32).toInt = 0 := rfl
theorem ny_z1 : (1 : Int32).toInt = 1 := rfl
theorem ny_z2 : (2 : Int32).toInt = 2 := rfl
/-- of the set: -127 to 127 -/
def ny_R (x : Int32) : Prop := -127 ≤ x.toInt ∧ x.toInt ≤ 127
theorem ny_nz0 {y : Int32} (h : ¬ y = 0) : y.toInt ≠ 0 := fun e => h (ny_eqI e)
theorem ny_tmod_sg (x y : Int) : (0 ≤ x → 0 ≤ x.tmod y ∧ x.tmod y ≤ x) ∧ (x ≤ 0 → x.tmod y ≤ 0 ∧ x ≤ x.tmod y) := by
  have e2 : (x.tmod y).natAbs = x.natAbs % y.natAbs := Int.natAbs_tmod x y
  have e3 : x.natAbs % y.natAbs ≤ x.natAbs := Nat.mod_le _ _
  refine ⟨fun h => ?_, fun h => ?_⟩
  · have := Int.tmod_nonneg y h
    omega
  · have h3 := Int.tmod_nonneg y (show 0 ≤ -x by omega)
    rw [Int.neg_tmod] at h3
    omega
theorem ny_divI {x y : Int32} (hx : -2147483648 < x.toInt) : (x / y).toInt = x.toInt.tdiv y.toInt :=
  Int32.toInt_div_of_ne_left x y (fun e => by rw [e] at hx; exact absurd hx (by decide))
theorem ny_remI {x y : Int32} (hx : -2147483648 < x.toInt) : (x - x / y * y).toInt = x.toInt.tmod y.toInt := by
  have h1 := ny_divI (x := x) (y := y) hx
  have h2 := Int.tdiv_mul_add_tmod x.toInt y.toInt
  have h3 := ny_tmod_sg x.toInt y.toInt
  have h4 := fb_rng x
  have h5 : (x / y * y).toInt = x.toInt.tdiv y.toInt * y.toInt := by
    rw [fb_mulI (by rw [h1]; omega) (by rw [h1]; omega), h1]
  rw [fb_subI (by rw [h5]; omega) (by rw [h5]; omega), h5]
  omega
theorem ny_divL {x y : Int64} (hx : -9223372036854775808 < x.toInt) : (x / y).toInt = x.toInt.tdiv y.toInt :=
  Int64.toInt_div_of_ne_left x y (fun e => by rw [e] at hx; exact absurd hx (by decide))
theorem ny_remL {x y : Int64} (hx : -9223372036854775808 < x.toInt) : (x - x / y * y).toInt = x.toInt.tmod y.toInt := by
  have h1 := ny_divL (x := x) (y := y) hx
  have h2 := Int.tdiv_mul_add_tmod x.toInt y.toInt
  have h3 := ny_tmod_sg x.toInt y.toInt
  have h4 := fb_rngL x
  have h5 : (x / y * y).toInt = x.toInt.tdiv y.toInt * y.toInt := by
    rw [fb_mulL (by rw [h1]; omega) (by rw [h1]; omega), h1]
  rw [fb_subL (by rw [h5]; omega) (by rw [h5]; omega), h5]
  omega
theorem ny_and1 (x : Int32) : x &&& 1 = 0 ↔ x.toInt % 2 = 0 := by
  have h := pk_and x (m := 1) 1 (by decide)
  rw [h]
  have h1 : x.toInt = x.toBitVec.toInt := rfl
  rw [h1, BitVec.toInt_eq_toNat_cond]
  have h2 : x.toBitVec.toNat % 2 ^ 1 < 2 := Nat.mod_lt _ (by decide)
  have h3 := nI_eq (a := x.toBitVec.toNat % 2 ^ 1) (b := 0) (by omega) (by decide)
  rw [nI_0] at h3
  rw [h3]
  split <;> omega
/-- |x| -/
def ny_ab (x : Int32) : Int32 := if 0 ≤ x then x else 0 - x
theorem ny_ab_i {x : Int32} (h : -2147483648 < x.toInt) : (ny_ab x).toInt = x.toInt.natAbs := by
  unfold ny_ab
  have h9 := fb_rng x
  have z := ny_z0
  split
  · rename_i h1
    rw [fa_le, ny_z0] at h1
    omega
  · rename_i h1
    rw [fa_le, ny_z0] at h1
    rw [fb_subI (by rw [ny_z0]; omega) (by rw [ny_z0]; omega), ny_z0]
    omega
theorem ny_ab_n {x : Int32} (h : x < 0) : -x = ny_ab x := by
  unfold ny_ab
  rw [if_neg (by rw [fa_le]; rw [fa_lt] at h; omega), Int32.zero_sub]
theorem ny_ab_p {x : Int32} (h : ¬ x < 0) : x = ny_ab x := by
  unfold ny_ab
  rw [if_pos (by rw [fa_le]; rw [fa_lt] at h; omega)]
/-- a Java boolean -/
def ny_B (z : Int32) : Prop := z = 0 ∨ z = 1
theorem ny_nz {z : Int32} (h : ny_B z) : vp_nar .boolean z = z := by rcases h with rfl | rfl <;> rfl
theorem ny_bn {z : Int32} (h : ny_B z) : narrow .boolean (.int z) = .int z := by rcases h with rfl | rfl <;> rfl
theorem ny_bf {z : Int32} (h : ny_B z) : fits .boolean (.int z) = true := by rcases h with rfl | rfl <;> rfl
/-- what is laid as the sign of a 0 -/
def f_z (n u : Int32) : Int32 := if n = 0 then u else 0
theorem f_z_B {n u : Int32} (h : ny_B u) : ny_B (f_z n u) := by
  unfold f_z
  split
  · exact h
  · exact Or.inl rfl
theorem f_z_0 (n : Int32) : f_z n 0 = 0 := by unfold f_z; split <;> rfl
/-- the sign of a number, that of 0 too -/
def f_un (h b : Int32) : Int32 := if h < 0 then 1 else b
theorem f_un_B {h b : Int32} (hb : ny_B b) : ny_B (f_un h b) := by
  unfold f_un
  split
  · exact Or.inr rfl
  · exact hb
/-- the bits of a double of n eighths, n from 1 -/
def f_btN (n : Nat) : Nat := (1019 + n.log2) * 2 ^ 52 + n * 2 ^ (52 - n.log2)
def f_bt (h b : Int32) : Int64 := if h = 0 then (if b = 0 then 0 else -9223372036854775808) else lN (f_btN h.toInt.natAbs + if h < 0 then 9223372036854775808 else 0)
theorem f_bt_z (n u : Int32) : f_bt n (f_z n u) = f_bt n u := by
  unfold f_bt f_z
  by_cases h : n = 0
  · rw [if_pos h, if_pos h, if_pos h]
  · rw [if_neg h, if_neg h]
def f_nr (x y : Int32) : Int32 := Int32.ofInt (ma_nr x.toInt y.toInt)
def f_re (x y : Int32) : Int32 := Int32.ofInt (ma_re x.toInt y.toInt)
def f_rs (v : Int64) (y : Int32) : Int32 := Int32.ofInt (ma_rs v.toInt y.toInt)
def f_cu (x y : Int32) : Int32 := x - x / y * y
def f_pw (x n y : Int32) : Int32 := Int32.ofInt (ma_rs (x.toInt ^ n.toInt.toNat) y.toInt)
def f_gd (x z : Int32) : Int32 := Int32.ofInt (Int.gcd x.toInt z.toInt)
theorem ma_nr_in {x y : Int} (hy : y ≠ 0) : (ma_nr x y).natAbs ≤ x.natAbs := by
  have h := ma_half (x := x) hy
  have h2 := ma_mulabs (ma_nr x y) y
  by_cases h9 : y.natAbs ≤ 1
  · have h8 : y.natAbs = 1 := by omega
    rw [h8] at h2 h
    omega
  · have h7 : (ma_nr x y).natAbs * 2 ≤ (ma_nr x y).natAbs * y.natAbs := Nat.mul_le_mul_left _ (by omega)
    by_cases h6 : (ma_nr x y).natAbs = 0
    · omega
    · have h5 : 1 * y.natAbs ≤ (ma_nr x y).natAbs * y.natAbs := Nat.mul_le_mul_right _ (by omega)
      by_cases h4 : (ma_nr x y).natAbs = 1
      · rw [h4] at h2 h5 h7
        omega
      · have h3 : 2 * y.natAbs ≤ (ma_nr x y).natAbs * y.natAbs := Nat.mul_le_mul_right _ (by omega)
        generalize (ma_nr x y).natAbs * y.natAbs = P at *
        omega
theorem f_nr_i {x y : Int32} (hx : ny_R x) (h0 : ¬ y = 0) : (f_nr x y).toInt = ma_nr x.toInt y.toInt := by
  have h := ma_nr_in (x := x.toInt) (ny_nz0 h0)
  unfold ny_R at hx
  exact fb_ofI (by omega) (by omega)
theorem f_re_i {x y : Int32} (hy : ny_R y) (h0 : ¬ y = 0) : (f_re x y).toInt = ma_re x.toInt y.toInt := by
  have h := ma_half (x := x.toInt) (ny_nz0 h0)
  have h1 : ma_re x.toInt y.toInt = x.toInt - ma_nr x.toInt y.toInt * y.toInt := rfl
  unfold ny_R at hy
  exact fb_ofI (by omega) (by omega)
theorem f_rs_i {v : Int64} {y : Int32} (hy : ny_R y) (h0 : ¬ y = 0) : (f_rs v y).toInt = ma_rs v.toInt y.toInt := by
  have h := ma_rs_size (v := v.toInt) (ny_nz0 h0)
  unfold ny_R at hy
  exact fb_ofI (by omega) (by omega)
theorem f_cu_i {x y : Int32} (hx : -2147483648 < x.toInt) : (f_cu x y).toInt = x.toInt.tmod y.toInt := ny_remI hx
theorem ny_R_re {x y : Int32} (hy : ny_R y) (h0 : ¬ y = 0) : ny_R (f_re x y) := by
  have h := ma_half (x := x.toInt) (ny_nz0 h0)
  have h1 : ma_re x.toInt y.toInt = x.toInt - ma_nr x.toInt y.toInt * y.toInt := rfl
  have h2 := f_re_i (x := x) hy h0
  unfold ny_R at hy ⊢
  omega
theorem ny_R_nr {x y : Int32} (hx : ny_R x) (h0 : ¬ y = 0) : ny_R (f_nr x y) := by
  have h := ma_nr_in (x := x.toInt) (ny_nz0 h0)
  have h2 := f_nr_i (x := x) hx h0
  unfold ny_R at hx ⊢
  omega
theorem ny_R_rs {v : Int64} {y : Int32} (hy : ny_R y) (h0 : ¬ y = 0) : ny_R (f_rs v y) := by
  have h := ma_rs_size (v := v.toInt) (ny_nz0 h0)
  have h2 := f_rs_i (v := v) hy h0
  unfold ny_R at hy ⊢
  omega
theorem ny_R_lo {x : Int32} (h : ny_R x) : -2147483648 < x.toInt := by unfold ny_R at h; omega
theorem ny_R_ng {x : Int32} (h : ny_R x) : ny_R (-x) := by
  unfold ny_R at h ⊢
  rw [fb_negI (by omega)]
  omega
theorem ny_ng_0 {y : Int32} (hy : ny_R y) (h0 : ¬ y = 0) : ¬ -y = 0 := by
  intro e
  have h1 := congrArg Int32.toInt e
  unfold ny_R at hy
  rw [fb_negI (by omega), ny_z0] at h1
  exact h0 (ny_eqI (by rw [ny_z0]; omega))
theorem ny_R_0 : ny_R 0 := by unfold ny_R; rw [ny_z0]; omega
/-! the rows of loops -/
section
variable {p : Program} {l : Launch} {e : Env} {R : Room} {s : State} {m : MethodId} {args : Array Value} {below : List Frame} {meth : Method} {c : Code} {H : Heap} {locs : List Loc} {cells slots : Nat} {Q : State → Prop}
variable {D : va_G} {A : Nat → Prop} {pc : Nat} {ls : Array Slot} {rest : List Value}
theorem ny_ti {x x2 : Int32} (h : x = x2) (k : W p l e R s m args below meth c H locs cells slots Q (F0 m pc ls (.int x2 :: rest))) : W p l e R s m args below meth c H locs cells slots Q (F0 m pc ls (.int x :: rest)) := by rw [h]; exact k
theorem ny_tl {x x2 : Int64} (h : x = x2) (k : W p l e R s m args below meth c H locs cells slots Q (F0 m pc ls (.long x2 :: rest))) : W p l e R s m args below meth c H locs cells slots Q (F0 m pc ls (.long x :: rest)) := by rw [h]; exact k
/-- a loop that leaves the heap as it is -/
theorem ny_lp {σ : Type} (pc nL : Nat) (I : σ → Prop) (μ : σ → Nat) (L : σ → List (Nat × Value))
    (hb : ∀ u, I u → (∀ u', I u' → μ u' < μ u → ∀ ls, lv_has ls nL (L u') → W p l e R s m args below meth c H locs cells slots Q (F0 m pc ls [])) → ∀ ls, lv_has ls nL (L u) → W p l e R s m args below meth c H locs cells slots Q (F0 m pc ls []))
    (u : σ) (hi : I u) {ls : Array Slot} (hl : lv_has ls nL (L u)) : W p l e R s m args below meth c H locs cells slots Q (F0 m pc ls []) := by
  have K : ∀ n u, μ u < n → I u → ∀ ls, lv_has ls nL (L u) → W p l e R s m args below meth c H locs cells slots Q (F0 m pc ls []) := by
    intro n
    induction n with
    | zero => intro u h; exact absurd h (Nat.not_lt_zero _)
    | succ n ih => intro u h hi ls hl; exact hb u hi (fun u' hi' hm => ih u' (by omega) hi') ls hl
  exact K (μ u + 1) u (Nat.lt_succ_self _) hi ls hl
/-- a loop that changes the world -/
theorem ny_lw {σ : Type} (pc nL : Nat) (I : σ → Prop) (μ : σ → Nat) (L : σ → List (Nat × Value)) (ws : σ → va_W)
    (hb : ∀ u, I u → (∀ u', I u' → μ u' < μ u → ∀ ls H locs, lv_has ls nL (L u') → va_P D vwCl (ws u') H → va_D A (ws u') → va_S A s.heap H locs → W p l e R s m args below meth c H locs cells slots Q (F0 m pc ls [])) → ∀ ls H locs, lv_has ls nL (L u) → va_P D vwCl (ws u) H → va_D A (ws u) → va_S A s.heap H locs → W p l e R s m args below meth c H locs cells slots Q (F0 m pc ls []))
    (u : σ) (hi : I u) {ls : Array Slot} (hl : lv_has ls nL (L u)) (hP : va_P D vwCl (ws u) H) (hD : va_D A (ws u)) (hS : va_S A s.heap H locs) : W p l e R s m args below meth c H locs cells slots Q (F0 m pc ls []) := by
  have K : ∀ n u, μ u < n → I u → ∀ ls H locs, lv_has ls nL (L u) → va_P D vwCl (ws u) H → va_D A (ws u) → va_S A s.heap H locs → W p l e R s m args below meth c H locs cells slots Q (F0 m pc ls []) := by
    intro n
    induction n with
    | zero => intro u h; exact absurd h (Nat.not_lt_zero _)
    | succ n ih => intro u h hi ls H locs hl hP hD hS; exact hb u hi (fun u' hi' hm => ih u' (by omega) hi') ls H locs hl hP hD hS
  exact K (μ u + 1) u (Nat.lt_succ_self _) hi ls H locs hl hP hD hS
end

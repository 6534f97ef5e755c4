/-! EUCLID: the pairs in range, the shares of the continued fraction, the inverse; and how the class and the reference hold them. -/
theorem n_euR {x z : Int} (hx : x.natAbs ≤ 127) (hz : z.natAbs ≤ 127) : ∀ k, (∀ j, j < k → (ma_eu x z j).2 ≠ 0) → (ma_eu x z k).1.natAbs ≤ 127 ∧ (ma_eu x z k).2.natAbs ≤ 127
  | 0, _ => ⟨hx, hz⟩
  | k + 1, h => by
    have h1 := n_euR hx hz k (fun j hj => h j (by omega))
    have h2 := ma_eu_half (h k (by omega))
    exact ⟨h1.2, by omega⟩
/-- the shares: of the first k whole numbers, begun with b and w -/
def ma_sh (d : Nat → Int) (b w : Int) : Nat → Int × Int
  | 0 => (b, w)
  | k + 1 => ((ma_sh d b w k).2, d k * (ma_sh d b w k).2 + (ma_sh d b w k).1)
theorem n_euS (x z : Int) (k : Nat) : (ma_eu x z k).1 = ma_dg x z k * (ma_eu x z (k + 1)).1 + (ma_eu x z (k + 1)).2 := by
  show (ma_eu x z k).1 = ma_nr (ma_eu x z k).1 (ma_eu x z k).2 * (ma_eu x z k).2 + ((ma_eu x z k).1 - ma_nr (ma_eu x z k).1 (ma_eu x z k).2 * (ma_eu x z k).2)
  omega
theorem n_mulD (d a b r t : Int) : (d * a + b) * r + a * t = a * (d * r + t) + b * r := by
  rw [Int.add_mul, Int.mul_add, Int.mul_assoc, Int.mul_left_comm d a r]
  omega
theorem n_shA (x z : Int) : ∀ k, (ma_sh (ma_dg x z) 0 1 k).2 * (ma_eu x z k).1 + (ma_sh (ma_dg x z) 0 1 k).1 * (ma_eu x z k).2 = x
  | 0 => by show 1 * x + 0 * z = x; omega
  | k + 1 => by
    have h := n_shA x z k
    rw [n_euS x z k] at h
    have h2 := n_mulD (ma_dg x z k) (ma_sh (ma_dg x z) 0 1 k).2 (ma_sh (ma_dg x z) 0 1 k).1 (ma_eu x z (k + 1)).1 (ma_eu x z (k + 1)).2
    have h3 : (ma_eu x z k).2 = (ma_eu x z (k + 1)).1 := rfl
    rw [h3] at h
    exact h2.trans h
theorem n_shB (x z : Int) : ∀ k, (ma_sh (ma_dg x z) 1 0 k).2 * (ma_eu x z k).1 + (ma_sh (ma_dg x z) 1 0 k).1 * (ma_eu x z k).2 = z
  | 0 => by show 0 * x + 1 * z = z; omega
  | k + 1 => by
    have h := n_shB x z k
    rw [n_euS x z k] at h
    have h2 := n_mulD (ma_dg x z k) (ma_sh (ma_dg x z) 1 0 k).2 (ma_sh (ma_dg x z) 1 0 k).1 (ma_eu x z (k + 1)).1 (ma_eu x z (k + 1)).2
    have h3 : (ma_eu x z k).2 = (ma_eu x z (k + 1)).1 := rfl
    rw [h3] at h
    exact h2.trans h
theorem n_det (d : Nat → Int) : ∀ k, (ma_sh d 0 1 k).2 * (ma_sh d 1 0 k).1 - (ma_sh d 0 1 k).1 * (ma_sh d 1 0 k).2 = 1 ∨ (ma_sh d 0 1 k).2 * (ma_sh d 1 0 k).1 - (ma_sh d 0 1 k).1 * (ma_sh d 1 0 k).2 = -1
  | 0 => Or.inl (by show (1 : Int) * 1 - 0 * 0 = 1; decide)
  | k + 1 => by
    have h := n_det d k
    have e : (ma_sh d 0 1 (k + 1)).2 * (ma_sh d 1 0 (k + 1)).1 - (ma_sh d 0 1 (k + 1)).1 * (ma_sh d 1 0 (k + 1)).2 = -((ma_sh d 0 1 k).2 * (ma_sh d 1 0 k).1 - (ma_sh d 0 1 k).1 * (ma_sh d 1 0 k).2) := by
      show (d k * (ma_sh d 0 1 k).2 + (ma_sh d 0 1 k).1) * (ma_sh d 1 0 k).2 - (ma_sh d 0 1 k).2 * (d k * (ma_sh d 1 0 k).2 + (ma_sh d 1 0 k).1) = _
      generalize (ma_sh d 0 1 k).2 = a
      generalize (ma_sh d 0 1 k).1 = a'
      generalize (ma_sh d 1 0 k).2 = b
      generalize (ma_sh d 1 0 k).1 = b'
      rw [Int.add_mul, Int.mul_add, Int.mul_assoc, Int.mul_left_comm (d k) a b]
      omega
    omega
theorem n_dg2 {x z : Int} {k : Nat} (h : ∀ j, j ≤ k + 1 → (ma_eu x z j).2 ≠ 0) : 2 ≤ (ma_dg x z (k + 1)).natAbs := by
  have h1 := ma_eu_half (h k (by omega))
  have h2 := ma_half (x := (ma_eu x z (k + 1)).1) (h (k + 1) (by omega))
  have h3 : (ma_eu x z (k + 1)).1 = (ma_eu x z k).2 := rfl
  have h4 := ma_mulabs (ma_dg x z (k + 1)) (ma_eu x z (k + 1)).2
  have h5 := h (k + 1) (by omega)
  have h6 : ma_dg x z (k + 1) = ma_nr (ma_eu x z (k + 1)).1 (ma_eu x z (k + 1)).2 := rfl
  rw [← h6] at h2
  rcases Nat.lt_or_ge (ma_dg x z (k + 1)).natAbs 2 with q | q
  · have h7 : (ma_dg x z (k + 1)).natAbs * (ma_eu x z (k + 1)).2.natAbs ≤ 1 * (ma_eu x z (k + 1)).2.natAbs := Nat.mul_le_mul_right _ (by omega)
    omega
  · exact q
theorem n_shM {x z : Int} : ∀ k, (∀ j, j ≤ k → (ma_eu x z j).2 ≠ 0) → (ma_sh (ma_dg x z) 1 0 (k + 1)).1.natAbs ≤ (ma_sh (ma_dg x z) 1 0 (k + 1)).2.natAbs
  | 0, _ => by
    show (0 : Int).natAbs ≤ _
    exact Nat.zero_le _
  | k + 1, h => by
    have h1 := n_shM k (fun j hj => h j (by omega))
    have h2 := n_dg2 h
    show (ma_sh (ma_dg x z) 1 0 (k + 1)).2.natAbs ≤ (ma_dg x z (k + 1) * (ma_sh (ma_dg x z) 1 0 (k + 1)).2 + (ma_sh (ma_dg x z) 1 0 (k + 1)).1).natAbs
    have h3 := ma_big2 (y := (ma_sh (ma_dg x z) 1 0 (k + 1)).2) h2
    omega
/-- an inverse of x by y -/
def ma_IV (x y r : Int) : Prop := ma_rs r y = r ∧ ma_rs (x * r) y = ma_rs 1 y
theorem ma_IV_one {x y a b : Int} (hy : y ≠ 0) (ha : ma_IV x y a) (hb : ma_IV x y b) : a = b := by
  have h1 : y ∣ x * a - x * b := ma_rs_back hy (ha.2.trans hb.2.symm)
  have h2 : y ∣ x * a - 1 := ma_rs_back hy ha.2
  have h3 : y ∣ a - b := by
    have h4 : a - b = a * (x * a - x * b) - (x * a - 1) * (a - b) := by
      rw [Int.mul_sub, Int.sub_mul, Int.one_mul, Int.mul_sub (x * a), Int.mul_left_comm a x a, Int.mul_left_comm a x b, Int.mul_assoc, Int.mul_assoc]
      omega
    rw [h4]
    exact Int.dvd_sub (Int.dvd_mul_of_dvd_right h1) (Int.dvd_mul_of_dvd_left h2)
  rw [← ha.1, ← hb.1]
  exact ma_rs_congr hy h3
theorem n_IVg {x y r : Int} (hy : y ≠ 0) (h : ma_IV x y r) : Int.gcd x y = 1 := by
  have h2 : y ∣ x * r - 1 := ma_rs_back hy h.2
  have h3 : ((Int.gcd x y : Nat) : Int) ∣ x * r - 1 := Int.dvd_trans (Int.gcd_dvd_right ..) h2
  have h4 : ((Int.gcd x y : Nat) : Int) ∣ x * r := Int.dvd_mul_of_dvd_left (Int.gcd_dvd_left ..)
  have h5 := Int.dvd_sub h4 h3
  have h6 : x * r - (x * r - 1) = 1 := by omega
  rw [h6] at h5
  have h7 := Int.natAbs_dvd_natAbs.mpr h5
  rw [Int.natAbs_natCast] at h7
  exact Nat.dvd_one.mp h7
/-- the search of the reference: 128 where there is none -/
def ma_ivF (x y : Int) : Nat → Int
  | 0 => 128
  | k + 1 => if ma_rs ((k : Int) - 127) y = (k : Int) - 127 ∧ ma_rs (x * ((k : Int) - 127)) y = ma_rs 1 y then (k : Int) - 127 else ma_ivF x y k
theorem n_ivF_none {x y : Int} (h : ∀ r, ¬ ma_IV x y r) : ∀ k, ma_ivF x y k = 128
  | 0 => rfl
  | k + 1 => by
    unfold ma_ivF
    split
    · rename_i q
      exact absurd q (h _)
    · exact n_ivF_none h k
theorem n_ivF_some {x y r : Int} (hy : y ≠ 0) (hr : ma_IV x y r) : ∀ k : Nat, r + 127 < k → -127 ≤ r → ma_ivF x y k = r
  | 0, h, h2 => absurd h (by omega)
  | k + 1, h, h2 => by
    unfold ma_ivF
    split
    · rename_i q
      exact ma_IV_one hy q hr
    · rename_i q
      refine n_ivF_some hy hr k ?_ h2
      rcases Int.lt_or_le (r + 127) k with q2 | q2
      · exact q2
      · have e : r = (k : Int) - 127 := by omega
        rw [e] at hr
        exact absurd hr q
def f_iv (x y : Int32) : Int32 := Int32.ofInt (ma_ivF x.toInt y.toInt 255)
theorem n_ivR {x y : Int} : ∀ k : Nat, k ≤ 255 → -127 ≤ ma_ivF x y k ∧ ma_ivF x y k ≤ 128
  | 0, _ => by unfold ma_ivF; omega
  | k + 1, h => by
    have h1 := n_ivR (x := x) (y := y) k (by omega)
    unfold ma_ivF
    split
    · omega
    · exact h1
theorem f_iv_i (x y : Int32) : (f_iv x y).toInt = ma_ivF x.toInt y.toInt 255 := by
  have := n_ivR (x := x.toInt) (y := y.toInt) 255 (Nat.le_refl _)
  exact fb_ofI (by omega) (by omega)
/-! in Int32 -/
def f_dg (x z : Int32) (k : Nat) : Int32 := Int32.ofInt (ma_dg x.toInt z.toInt k)
def f_ln (x z : Int32) : Nat := ma_ln x.toInt z.toInt
def f_la (x z : Int32) : Int32 := Int32.ofInt (ma_eu x.toInt z.toInt (f_ln x z)).1
/-- a row whose first n are the whole numbers of x and z -/
def f_row (rf : Nat → Int32) (x z : Int32) (n : Nat) : Nat → Int32 := fun j => if j < n then f_dg x z j else rf j
theorem f_row0 (rf : Nat → Int32) (x z : Int32) : f_row rf x z 0 = rf := by
  funext j
  unfold f_row
  rw [if_neg (Nat.not_lt_zero j)]
theorem f_rowS (rf : Nat → Int32) (x z : Int32) (k : Nat) : upd (f_row rf x z k) k (f_dg x z k) = f_row rf x z (k + 1) := by
  funext j
  unfold upd f_row
  by_cases h : j = k
  · subst h
    rw [if_pos rfl, if_pos (Nat.lt_succ_self _)]
  · rw [if_neg h]
    by_cases h2 : j < k
    · rw [if_pos h2, if_pos (by omega)]
    · rw [if_neg h2, if_neg (by omega)]
theorem f_rowSI (rf : Nat → Int32) (x z : Int32) {k : Nat} (hk : k < 2 ^ 31) : upd (f_row rf x z k) (nI k).toNatClampNeg (f_dg x z k) = f_row rf x z (k + 1) := by
  rw [nI_clamp hk]
  exact f_rowS rf x z k
theorem n_R127 {x : Int32} (h : ny_R x) : x.toInt.natAbs ≤ 127 := by unfold ny_R at h; omega
theorem n_Rof {a : Int} (h : a.natAbs ≤ 127) : ny_R (Int32.ofInt a) := by
  have := n_oi (n := a) (by omega) (by omega)
  unfold ny_R
  omega
theorem n_dgI {x z : Int32} {k : Nat} (h : (ma_eu x.toInt z.toInt k).1.natAbs ≤ 127 ∧ (ma_eu x.toInt z.toInt k).2.natAbs ≤ 127) : f_nr (Int32.ofInt (ma_eu x.toInt z.toInt k).1) (Int32.ofInt (ma_eu x.toInt z.toInt k).2) = f_dg x z k := by
  unfold f_nr f_dg ma_dg
  rw [n_oi (by omega) (by omega), n_oi (by omega) (by omega)]
theorem n_euI (x z : Int32) (k : Nat) : Int32.ofInt (ma_eu x.toInt z.toInt k).1 - f_dg x z k * Int32.ofInt (ma_eu x.toInt z.toInt k).2 = Int32.ofInt (ma_eu x.toInt z.toInt (k + 1)).2 := by
  unfold f_dg
  rw [← Int32.ofInt_mul, ← Int32.ofInt_sub]
  rfl
theorem n_eu0 {x z : Int32} {k : Nat} (h : (ma_eu x.toInt z.toInt k).2.natAbs ≤ 127) : Int32.ofInt (ma_eu x.toInt z.toInt k).2 = 0 ↔ (ma_eu x.toInt z.toInt k).2 = 0 := by
  rw [fa_eq, n_oi (by omega) (by omega), ny_z0]
/-- the shares in Int32 -/
def f_sh (rf : Nat → Int32) (b w : Int32) : Nat → Int32 × Int32
  | 0 => (b, w)
  | k + 1 => ((f_sh rf b w k).2, rf k * (f_sh rf b w k).2 + (f_sh rf b w k).1)
theorem f_shS (rf : Nat → Int32) (b w : Int32) {k : Nat} (hk : k < 2 ^ 31) : rf (nI k).toNatClampNeg * (f_sh rf b w k).2 + (f_sh rf b w k).1 = (f_sh rf b w (k + 1)).2 := by
  rw [nI_clamp hk]
  rfl
theorem n_shI {rf : Nat → Int32} {d : Nat → Int} {b w : Int} : ∀ k, (∀ j, j < k → rf j = Int32.ofInt (d j)) → f_sh rf (Int32.ofInt b) (Int32.ofInt w) k = (Int32.ofInt (ma_sh d b w k).1, Int32.ofInt (ma_sh d b w k).2)
  | 0, _ => rfl
  | k + 1, h => by
    have h1 := n_shI (b := b) (w := w) k (fun j hj => h j (by omega))
    unfold f_sh ma_sh
    rw [h1, h k (Nat.lt_succ_self k), Int32.ofInt_add, Int32.ofInt_mul]
theorem n_shR {rf : Nat → Int32} {x z : Int32} {b w : Int} {k n : Nat} (hk : k ≤ n) : f_sh (f_row rf x z n) (Int32.ofInt b) (Int32.ofInt w) k = (Int32.ofInt (ma_sh (ma_dg x.toInt z.toInt) b w k).1, Int32.ofInt (ma_sh (ma_dg x.toInt z.toInt) b w k).2) := by
  refine n_shI k (fun j hj => ?_)
  unfold f_row
  rw [if_pos (by omega)]
  rfl
theorem n_lnp {x z : Int} (hz : z.natAbs ≤ 127) (h0 : z ≠ 0) : 0 < ma_ln x z := by
  rcases Nat.eq_zero_or_pos (ma_ln x z) with q | q
  · have h := (ma_ln_ok (x := x) hz).1.2
    rw [q] at h
    exact absurd h h0
  · exact q
/-- what the shares are of, at the end -/
theorem n_end {x z : Int} (hz : z.natAbs ≤ 127) : (ma_sh (ma_dg x z) 0 1 (ma_ln x z)).2 * (ma_eu x z (ma_ln x z)).1 = x ∧ (ma_sh (ma_dg x z) 1 0 (ma_ln x z)).2 * (ma_eu x z (ma_ln x z)).1 = z := by
  have h1 := n_shA x z (ma_ln x z)
  have h2 := n_shB x z (ma_ln x z)
  rw [(ma_ln_ok hz).1.2, Int.mul_zero, Int.add_zero] at h1 h2
  exact ⟨h1, h2⟩
theorem n_lastp {x z : Int} (hz : z.natAbs ≤ 127) (h0 : z ≠ 0) : (ma_eu x z (ma_ln x z)).1 ≠ 0 := by
  intro e
  have h := (n_end (x := x) hz).2
  rw [e, Int.mul_zero] at h
  exact h0 h.symm
/-- the last but one share below is small -/
theorem n_shb {x z : Int} (hz : z.natAbs ≤ 127) (h0 : z ≠ 0) : (ma_sh (ma_dg x z) 1 0 (ma_ln x z)).1.natAbs ≤ 127 := by
  obtain ⟨⟨h1, h2⟩, h3⟩ := ma_ln_ok (x := x) hz
  have h4 := n_lnp (x := x) hz h0
  have h5 := (n_end (x := x) hz).2
  have h6 := n_lastp (x := x) hz h0
  obtain ⟨k, hk⟩ : ∃ k, ma_ln x z = k + 1 := ⟨ma_ln x z - 1, by omega⟩
  rw [hk] at h1 h5 h6 ⊢
  have h7 := n_shM k (fun j hj => h1 j (by omega))
  have h8 := ma_mulabs (ma_sh (ma_dg x z) 1 0 (k + 1)).2 (ma_eu x z (k + 1)).1
  rw [h5] at h8
  have h9 : (ma_sh (ma_dg x z) 1 0 (k + 1)).2.natAbs ≤ (ma_sh (ma_dg x z) 1 0 (k + 1)).2.natAbs * (ma_eu x z (k + 1)).1.natAbs := Nat.le_mul_of_pos_right _ (by omega)
  omega
/-- with measure 1, x times that share is 1 or -1 by z -/
theorem n_inv {x z : Int} (hz : z.natAbs ≤ 127) (hg : Int.gcd x z = 1) : z ∣ x * (ma_sh (ma_dg x z) 1 0 (ma_ln x z)).1 - 1 ∨ z ∣ x * (ma_sh (ma_dg x z) 1 0 (ma_ln x z)).1 + 1 := by
  obtain ⟨e1, e2⟩ := n_end (x := x) hz
  have hl := ma_eu_last (x := x) hz
  rw [hg] at hl
  have hd := n_det (ma_dg x z) (ma_ln x z)
  generalize (ma_eu x z (ma_ln x z)).1 = t at *
  generalize (ma_sh (ma_dg x z) 0 1 (ma_ln x z)).2 = a at *
  generalize (ma_sh (ma_dg x z) 0 1 (ma_ln x z)).1 = a' at *
  generalize (ma_sh (ma_dg x z) 1 0 (ma_ln x z)).2 = b at *
  generalize (ma_sh (ma_dg x z) 1 0 (ma_ln x z)).1 = b' at *
  have ht : t = 1 ∨ t = -1 := by omega
  have k1 : a * b' = (a * b' - a' * b) + a' * b := by omega
  rcases ht with rfl | rfl
  · rw [Int.mul_one] at e1 e2
    subst e1; subst e2
    rcases hd with q | q
    · left
      exact ⟨a', by rw [Int.mul_comm b a']; omega⟩
    · right
      exact ⟨a', by rw [Int.mul_comm b a']; omega⟩
  · have e3 : x = -a := by omega
    have e4 : z = -b := by omega
    subst e3; subst e4
    rcases hd with q | q
    · right
      exact ⟨a', by rw [Int.neg_mul, Int.neg_mul, Int.mul_comm b a']; omega⟩
    · left
      exact ⟨a', by rw [Int.neg_mul, Int.neg_mul, Int.mul_comm b a']; omega⟩

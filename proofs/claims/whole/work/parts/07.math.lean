/-! NUMBERS: the nearest whole number, the residue, Euclid's steps: over Int, with what makes each the only one. -/
/-- n is a whole number nearest to x / y, the even one of two -/
def ma_NR (x y n : Int) : Prop := 2 * (x - n * y).natAbs < y.natAbs ∨ (2 * (x - n * y).natAbs = y.natAbs ∧ n % 2 = 0)
def ma_nr (x y : Int) : Int :=
  if 2 * (x.tmod y).natAbs < y.natAbs ∨ (2 * (x.tmod y).natAbs = y.natAbs ∧ x.tdiv y % 2 = 0) then x.tdiv y else if (x < 0 ↔ y < 0) then x.tdiv y + 1 else x.tdiv y - 1
theorem ma_nr_ok {x y : Int} (hy : y ≠ 0) : ma_NR x y (ma_nr x y) := by
  have e1 : x.tmod y + x.tdiv y * y = x := Int.tmod_add_tdiv_mul x y
  have e2 : (x.tmod y).natAbs = x.natAbs % y.natAbs := Int.natAbs_tmod x y
  have e3 : x.natAbs % y.natAbs < y.natAbs := Nat.mod_lt _ (by omega)
  have s1 : 0 ≤ x → 0 ≤ x.tmod y := fun h => Int.tmod_nonneg y h
  have s2 : x ≤ 0 → x.tmod y ≤ 0 := fun h => by
    have h3 := Int.tmod_nonneg y (show 0 ≤ -x by omega)
    rw [Int.neg_tmod] at h3
    omega
  unfold ma_NR ma_nr
  generalize x.tdiv y = t at e1 ⊢
  generalize x.tmod y = m at e1 e2 s1 s2 ⊢
  split
  · rename_i h
    have e4 : x - t * y = m := by omega
    rw [e4]; exact h
  · rename_i h
    split
    · rename_i h2
      have e4 : x - (t + 1) * y = m - y := by rw [Int.add_mul]; omega
      rw [e4]
      omega
    · rename_i h2
      have e4 : x - (t - 1) * y = m + y := by rw [Int.sub_mul]; omega
      rw [e4]
      omega
theorem ma_mulabs (d y : Int) : (d * y).natAbs = d.natAbs * y.natAbs := Int.natAbs_mul d y
theorem ma_big1 {d y : Int} (h : d ≠ 0) : y.natAbs ≤ (d * y).natAbs := by
  rw [ma_mulabs]
  exact Nat.le_mul_of_pos_left _ (by omega)
theorem ma_big2 {d y : Int} (h : 2 ≤ d.natAbs) : 2 * y.natAbs ≤ (d * y).natAbs := by
  rw [ma_mulabs]
  exact Nat.mul_le_mul_right _ h
theorem ma_NR_one {x y a b : Int} (hy : y ≠ 0) (ha : ma_NR x y a) (hb : ma_NR x y b) : a = b := by
  have h1 : (x - a * y) - (x - b * y) = (b - a) * y := by rw [Int.sub_mul]; omega
  by_cases h0 : b - a = 0
  · omega
  · have h2 := ma_big1 (y := y) h0
    unfold ma_NR at ha hb
    rw [← h1] at h2
    by_cases h3 : 2 ≤ (b - a).natAbs
    · have h4 := ma_big2 (y := y) h3
      rw [← h1] at h4
      omega
    · omega
theorem ma_nr_of {x y n : Int} (hy : y ≠ 0) (h : ma_NR x y n) : ma_nr x y = n := ma_NR_one hy (ma_nr_ok hy) h
/-- the rest is at most half -/
theorem ma_half {x y : Int} (hy : y ≠ 0) : 2 * (x - ma_nr x y * y).natAbs ≤ y.natAbs := by
  have h := ma_nr_ok (x := x) hy
  unfold ma_NR at h
  omega
theorem ma_nr_size {x y : Int} (hy : y ≠ 0) : (ma_nr x y).natAbs ≤ x.natAbs + 1 := by
  have h := ma_half (x := x) hy
  have h2 := ma_mulabs (ma_nr x y) y
  have h3 : (ma_nr x y).natAbs ≤ (ma_nr x y).natAbs * y.natAbs := Nat.le_mul_of_pos_right _ (by omega)
  by_cases h9 : y.natAbs ≤ 1
  · have h8 : y.natAbs = 1 := by omega
    rw [h8] at h2 h
    omega
  · have h7 : (ma_nr x y).natAbs * 2 ≤ (ma_nr x y).natAbs * y.natAbs := Nat.mul_le_mul_left _ (by omega)
    by_cases h6 : (ma_nr x y).natAbs ≤ 1
    · omega
    · have h5 : 2 * y.natAbs ≤ (ma_nr x y).natAbs * y.natAbs := Nat.mul_le_mul_right _ (by omega)
      generalize (ma_nr x y).natAbs * y.natAbs = P at *
      omega
/-- the rest -/
def ma_re (x y : Int) : Int := x - ma_nr x y * y
/-- r is the residue of v by y -/
def ma_RS (v y r : Int) : Prop := y ∣ v - r ∧ -(y.natAbs : Int) < 2 * r ∧ 2 * r ≤ (y.natAbs : Int)
def ma_rs (v y : Int) : Int := if (y.natAbs : Int) < 2 * (v % y) then v % y - y.natAbs else v % y
theorem ma_rs_ok {v y : Int} (hy : y ≠ 0) : ma_RS v y (ma_rs v y) := by
  have h1 : 0 ≤ v % y := Int.emod_nonneg v hy
  have h2 : v % y < (y.natAbs : Int) := by
    have := Int.emod_lt v hy
    omega
  have h3 : y ∣ v - v % y := ⟨v / y, by have := Int.emod_add_mul_ediv v y; omega⟩
  unfold ma_RS ma_rs
  split
  · refine ⟨?_, by omega, by omega⟩
    have h4 : y ∣ (y.natAbs : Int) := Int.dvd_natAbs.mpr (Int.dvd_refl y)
    have h5 : v - (v % y - (y.natAbs : Int)) = (v - v % y) + (y.natAbs : Int) := by omega
    rw [h5]
    exact Int.dvd_add h3 h4
  · exact ⟨h3, by omega, by omega⟩
theorem ma_dvd0 {y d : Int} (h : y ∣ d) (hl : d.natAbs < y.natAbs) : d = 0 := by
  obtain ⟨k, rfl⟩ := h
  by_cases hk : k = 0
  · rw [hk, Int.mul_zero]
  · have := ma_big1 (d := k) (y := y) hk
    rw [Int.mul_comm] at this
    omega
theorem ma_RS_one {v y a b : Int} (ha : ma_RS v y a) (hb : ma_RS v y b) : a = b := by
  obtain ⟨a1, a2, a3⟩ := ha
  obtain ⟨b1, b2, b3⟩ := hb
  have h : y ∣ a - b := by
    have h9 : a - b = (v - b) - (v - a) := by omega
    rw [h9]
    exact Int.dvd_sub b1 a1
  have := ma_dvd0 h (by omega)
  omega
theorem ma_rs_of {v y r : Int} (hy : y ≠ 0) (h : ma_RS v y r) : ma_rs v y = r := ma_RS_one (ma_rs_ok hy) h
/-- the residue of congruent numbers is one -/
theorem ma_rs_congr {v w y : Int} (hy : y ≠ 0) (h : y ∣ v - w) : ma_rs v y = ma_rs w y := by
  refine ma_rs_of hy ?_
  obtain ⟨b1, b2, b3⟩ := ma_rs_ok (v := w) hy
  refine ⟨?_, b2, b3⟩
  have h9 : v - ma_rs w y = (v - w) + (w - ma_rs w y) := by omega
  rw [h9]
  exact Int.dvd_add h b1
theorem ma_rs_dvd {v y : Int} (hy : y ≠ 0) : y ∣ v - ma_rs v y := (ma_rs_ok hy).1
theorem ma_rs_sub {v y : Int} (hy : y ≠ 0) : y ∣ ma_rs v y - v := by
  have h := ma_rs_dvd (v := v) hy
  have h9 : ma_rs v y - v = -(v - ma_rs v y) := by omega
  rw [h9]
  exact Int.dvd_neg.mpr h
theorem ma_rs_back {v w y : Int} (hy : y ≠ 0) (h : ma_rs v y = ma_rs w y) : y ∣ v - w := by
  have h1 := ma_rs_dvd (v := v) hy
  have h2 := ma_rs_sub (v := w) hy
  have h9 : v - w = (v - ma_rs v y) + (ma_rs w y - w) := by omega
  rw [h9]
  exact Int.dvd_add h1 h2
theorem ma_rs_size {v y : Int} (hy : y ≠ 0) : 2 * (ma_rs v y).natAbs ≤ y.natAbs := by
  obtain ⟨-, b2, b3⟩ := ma_rs_ok (v := v) hy
  omega
/-- Euclid's pairs -/
def ma_eu (x z : Int) : Nat → Int × Int
  | 0 => (x, z)
  | k + 1 => ((ma_eu x z k).2, ma_re (ma_eu x z k).1 (ma_eu x z k).2)
/-- Euclid's whole numbers -/
def ma_dg (x z : Int) (k : Nat) : Int := ma_nr (ma_eu x z k).1 (ma_eu x z k).2
theorem ma_eu_half {x z : Int} {k : Nat} (h : (ma_eu x z k).2 ≠ 0) : 2 * (ma_eu x z (k + 1)).2.natAbs ≤ (ma_eu x z k).2.natAbs := ma_half h
/-- how many: the first place where the second is 0 -/
def ma_LN (x z : Int) (n : Nat) : Prop := (∀ j, j < n → (ma_eu x z j).2 ≠ 0) ∧ (ma_eu x z n).2 = 0
theorem ma_LN_one {x z : Int} {a b : Nat} (ha : ma_LN x z a) (hb : ma_LN x z b) : a = b := by
  rcases Nat.lt_trichotomy a b with h | h | h
  · exact absurd ha.2 (hb.1 a h)
  · exact h
  · exact absurd hb.2 (ha.1 b h)
theorem ma_LN_at {x z : Int} {n : Nat} : ∀ k, (∀ j, j < k → (ma_eu x z j).2 ≠ 0) → (ma_eu x z k).2.natAbs * 2 ^ k ≤ z.natAbs
  | 0, _ => by simp [ma_eu]
  | k + 1, h => by
    have h1 := ma_LN_at (n := n) k (fun j hj => h j (by omega))
    have h2 := ma_eu_half (h k (by omega))
    have h3 : (ma_eu x z (k + 1)).2.natAbs * 2 ^ (k + 1) = 2 * (ma_eu x z (k + 1)).2.natAbs * 2 ^ k := by
      rw [Nat.pow_succ]
      generalize (ma_eu x z (k + 1)).2.natAbs = a
      rw [Nat.mul_comm 2 a, Nat.mul_assoc, Nat.mul_comm (2 ^ k) 2]
    rw [h3]
    exact Nat.le_trans (Nat.mul_le_mul_right _ h2) h1
def ma_lnF (x z : Int) : Nat → Nat → Nat
  | 0, k => k
  | f + 1, k => if (ma_eu x z k).2 = 0 then k else ma_lnF x z f (k + 1)
def ma_ln (x z : Int) : Nat := ma_lnF x z 7 0
theorem ma_lnF_ok {x z : Int} (hz : z.natAbs ≤ 127) : ∀ f k, f + k = 7 → (∀ j, j < k → (ma_eu x z j).2 ≠ 0) → ma_LN x z (ma_lnF x z f k) ∧ ma_lnF x z f k ≤ 7
  | 0, k, h, hj => by
    have h7 : k = 7 := by omega
    subst h7
    refine ⟨⟨hj, ?_⟩, Nat.le_refl _⟩
    have := ma_LN_at (n := 0) 7 hj
    show (ma_eu x z 7).2 = 0
    omega
  | f + 1, k, h, hj => by
    unfold ma_lnF
    split
    · rename_i h0
      exact ⟨⟨hj, h0⟩, by omega⟩
    · rename_i h0
      refine ma_lnF_ok hz f (k + 1) (by omega) (fun j hjk => ?_)
      rcases Nat.lt_or_ge j k with q | q
      · exact hj j q
      · have : j = k := by omega
        subst this; exact h0
theorem ma_ln_ok {x z : Int} (hz : z.natAbs ≤ 127) : ma_LN x z (ma_ln x z) ∧ ma_ln x z ≤ 7 := ma_lnF_ok hz 7 0 rfl (fun j hj => absurd hj (Nat.not_lt_zero j))
theorem ma_ln_of {x z : Int} {n : Nat} (hz : z.natAbs ≤ 127) (h : ma_LN x z n) : ma_ln x z = n := ma_LN_one (ma_ln_ok hz).1 h
/-- a loop of Euclid's that has come to k with 7 at most ends at ma_ln -/
theorem ma_ln_end {x z : Int} {k : Nat} (hz : z.natAbs ≤ 127) (hj : ∀ j, j < k → (ma_eu x z j).2 ≠ 0) (hk : (ma_eu x z k).2 = 0 ∨ 7 ≤ k) : k = ma_ln x z := by
  obtain ⟨⟨h1, h2⟩, h3⟩ := ma_ln_ok (x := x) hz
  rcases Nat.lt_trichotomy k (ma_ln x z) with h | h | h
  · rcases hk with hk | hk
    · exact absurd hk (h1 k h)
    · omega
  · exact h
  · exact absurd h2 (hj _ h)
/-- what the pairs share is shared by all -/
theorem ma_eu_gcd (x z : Int) : ∀ k, Int.gcd (ma_eu x z k).1 (ma_eu x z k).2 = Int.gcd x z
  | 0 => rfl
  | k + 1 => by
    rw [← ma_eu_gcd x z k]
    show Int.gcd (ma_eu x z k).2 ((ma_eu x z k).1 - ma_nr (ma_eu x z k).1 (ma_eu x z k).2 * (ma_eu x z k).2) = _
    generalize (ma_eu x z k).1 = a
    generalize (ma_eu x z k).2 = b
    generalize ma_nr a b = n
    apply Nat.dvd_antisymm
    · refine Int.dvd_gcd ?_ (Int.gcd_dvd_left ..)
      have h1 : ((Int.gcd b (a - n * b) : Nat) : Int) ∣ a - n * b := Int.gcd_dvd_right ..
      have h2 : ((Int.gcd b (a - n * b) : Nat) : Int) ∣ n * b := Int.dvd_mul_of_dvd_right (Int.gcd_dvd_left ..)
      have h3 := Int.dvd_add h1 h2
      have h4 : a - n * b + n * b = a := by omega
      rw [h4] at h3
      exact h3
    · exact Int.dvd_gcd (Int.gcd_dvd_right ..) (Int.dvd_sub (Int.gcd_dvd_left ..) (Int.dvd_mul_of_dvd_right (Int.gcd_dvd_right ..)))
/-- the last number that wasn't 0, but for its sign -/
theorem ma_eu_last {x z : Int} (hz : z.natAbs ≤ 127) : (ma_eu x z (ma_ln x z)).1.natAbs = Int.gcd x z := by
  have h := ma_eu_gcd x z (ma_ln x z)
  rw [(ma_ln_ok hz).1.2, Int.gcd_zero_right] at h
  exact h

/-! THE CLASS'S NUMBERS: worlds, exceptions, and promises 1 to 19's methods that need no Euclid. -/
def ny_H (hf : Nat → Int32) : Prop := ∀ k, k < 12 → ny_R (hf k)
def ny_BB (bf : Nat → Int32) : Prop := ∀ k, k < 12 → ny_B (bf k)
theorem n_ix {p : Int32} (h : vp_in p 12) : p.toNatClampNeg < 12 := by
  rcases Nat.lt_or_ge p.toNatClampNeg 12 with q | q
  · exact q
  · exact absurd (Or.inr q) h
theorem ny_H.up {hf : Nat → Int32} (h : ny_H hf) (k : Nat) {x : Int32} (hx : ny_R x) : ny_H (upd hf k x) := by
  intro j hj
  unfold upd
  split
  · exact hx
  · exact h j hj
theorem ny_BB.up {hf : Nat → Int32} (h : ny_BB hf) (k : Nat) {x : Int32} (hx : ny_B x) : ny_BB (upd hf k x) := by
  intro j hj
  unfold upd
  split
  · exact hx
  · exact h j hj
abbrev ny_nm : List String := ["java/lang/RuntimeException", "java/lang/Exception"]
abbrev ny_bad (X : String) : List Cond := [.castable X X, .declares (Bundle.initS "java/lang/RuntimeException"), .declares (Bundle.initS "java/lang/Exception"), .declares (Bundle.initS Bundle.tN)]
theorem ny_h117 : ∀ w ∈ Cond.classLink RX1 113 ny_IO :: Cond.initialized ny_IO :: vx_atS RX1 117 ny_IO ny_nm, vx_ot w = true := by decide +kernel
theorem ny_b117 : ∀ w ∈ (vx_atS RX1 117 ny_IO ny_nm).filter (fun w => !goodWord w), w ∈ ny_bad ny_IO := by decide +kernel
theorem ny_h35 : ∀ w ∈ Cond.classLink RX1 31 ny_IA :: Cond.initialized ny_IA :: vx_atS RX1 35 ny_IA ny_nm, vx_ot w = true := by decide +kernel
theorem ny_b35 : ∀ w ∈ (vx_atS RX1 35 ny_IA ny_nm).filter (fun w => !goodWord w), w ∈ ny_bad ny_IA := by decide +kernel
theorem ny_h99 : ∀ w ∈ Cond.classLink RX1 95 ny_AE :: Cond.initialized ny_AE :: vx_atS RX1 99 ny_AE ny_nm, vx_ot w = true := by decide +kernel
theorem ny_b99 : ∀ w ∈ (vx_atS RX1 99 ny_AE ny_nm).filter (fun w => !goodWord w), w ∈ ny_bad ny_AE := by decide +kernel
section
variable {p : Program} {l : Launch} {e : Env} {R : Room} {s : State} {m : MethodId} {args : Array Value} {below : List Frame} {meth : Method} {c : Code} {H : Heap} {locs : List Loc} {cells slots : Nat} {Q : State → Prop}
variable {D : va_G} {ty tyc : List (ClassId × FieldType)} {A fr : Nat → Prop} {ws wc wr : va_W} {mc ms pc : Nat} {ls : Array Slot} {st0 rest : List Value} {a : Array Value} {Qc : Array Value → State → Outcome → State → Prop}
/-- new X(text) thrown out of the method, nothing changed before -/
theorem ny_throw {cc : ByteArray} {pc : Nat} (hexec : p.tables.exec = Jvm.exec) (hb : c.code = cc) (hl9 : l.stackTraces = false) {cls text : String} {ik is ic : Nat} (hown : s.vm.findClass RX1 = some m.cls) (hcls : Bundle.fit cls = true) (hk : (Cond.classLink RX1 ik cls).before args s = true) (hini : (Cond.initialized cls).before args s = true) (hE : ny_ev A s s.heap) (hte : (is, text) ∈ ny_texts) (hca : cls ∈ ny_cs)
    (hat : ∀ w ∈ (vx_atS RX1 ic cls ny_nm).filter goodWord, w.before args s = true) (hbad : ∀ w ∈ (vx_atS RX1 ic cls ny_nm).filter (fun w => !goodWord w), w ∈ ny_bad cls) (hgood : ∀ w ∈ Cond.classLink RX1 ik cls :: Cond.initialized cls :: vx_atS RX1 ic cls ny_nm, vx_ot w = true)
    (hS : va_S A s.heap s.heap locs) (hsize : ls.size = c.maxLocals) (d0 : decode cc pc = .ok (.new ik, 3)) (d3 : decode cc (pc + 3) = .ok (.dup, 1)) (d4 : decode cc (pc + 4) = .ok (.ldc is, 2)) (d6 : decode cc (pc + 6) = .ok (.invokespecial ic, 3)) (d9 : decode cc (pc + 9) = .ok (.athrow, 1))
    (ht : ∀ x ∈ c.exceptionTable.toList, False) (hRf : 5 < R.frames) (hRl : (rest.map fun v => v.category).sum + 82 ≤ R.locals) (hRc : cells + 1 ≤ R.cells) (hRs : slots + 6 ≤ R.slots) (hlocks : meth.locks = false) (hc : cells + 1 ≤ mc) (hs : slots + 6 ≤ ms) :
    W p l e R s m args below meth c s.heap locs cells slots (vx_MQ below Qc (vx_X (fun _ : Unit => True) (fun E' _ _ => E' = cls) (fun _ => False)) args s mc ms A) (F0 m pc ls rest) := by
  obtain ⟨sa, hstr⟩ := hE.2.1 _ hte
  exact vx_throwS (names := ny_nm) (A := A) hexec hb hl9 hown hcls (by decide) hk hini hstr (vx_hat hat hbad (vx_c (va_Nw.use rfl (hE.2.2.2.2.1 _ hca)) (vx_c (va_Nw.use rfl (hE.2.2.2.2.2.2 _ (List.mem_of_getElem? (i := 0) rfl))) (vx_c (va_Nw.use rfl (hE.2.2.2.2.2.2 _ (List.mem_of_getElem? (i := 1) rfl))) (vx_c (va_Nw.use rfl (hE.2.2.2.2.2.2 _ (List.mem_of_getElem? (i := 2) rfl))) vx_n))))) hgood hE.1.1 hE.1.2 hS hsize d0 d3 d4 d6 d9 (fun x hx => (ht x hx).elim) hRf hRl hRc hRs hlocks (fun t _ hz hk => ⟨(), trivial, rfl, hz, fun q h _ => hk q h⟩) hS.2.2 hc hs
/-- a callee's throw goes on to the caller; nothing changed since the start -/
theorem ny_th {E : String} (hS : va_S A s.heap s.heap locs) (hf : ∀ q, fr q → A q) (ht : ∀ x ∈ c.exceptionTable.toList, False) (hlocks : meth.locks = false) {cells9 slots9 : Nat} (hc : cells + mc ≤ cells9) (hs : slots + ms ≤ slots9)
    (hr : vx_Run p l e R s m args below meth c s.heap locs cells slots mc ms (F0 m pc ls st0) rest (fun _ _ _ => False) (vx_X (fun _ : Unit => True) (fun E' _ _ => E' = E) (fun _ => False)) fr) : W p l e R s m args below meth c s.heap locs cells slots (vx_MQ below Qc (vx_X (fun _ : Unit => True) (fun E' _ _ => E' = E) (fun _ => False)) args s cells9 slots9 A) (F0 m pc ls st0) := by
  refine ny_x hS hf hr (fun ce q9 H1 locs1 hz hk hS1 h1 h2 h3 => ?_)
  exact vx_out (fun x hx => (ht x hx).elim) hlocks h1 h2 h3 (fun t ht _ => ⟨(), trivial, rfl, by rw [ht]; exact hz, fun q h _ => by rw [ht]; exact hk q h⟩) hS1.2.2 hc hs
end
/-! the bits as the class puts them together -/
def n_E1 (x : Int32) : Int64 := (1020 + (31 - nI (31 - x.toInt.toNat.log2))).toInt64 <<< ((52 : Int32).toInt64 &&& 63)
def n_E2 (x : Int32) : Int64 := (x.toInt64 <<< ((52 - (31 - nI (31 - x.toInt.toNat.log2))).toInt64 &&& 63)) &&& 4503599627370495
theorem n_batp : ∀ n : Nat, n < 128 → 0 < n → ((0 : Int64) ||| n_E1 (nI n)) ||| n_E2 (nI n) = lN (f_btN n + 0) := by decide +kernel
theorem n_batn : ∀ n : Nat, n < 128 → 0 < n → ((-9223372036854775808 : Int64) ||| n_E1 (nI n)) ||| n_E2 (nI n) = lN (f_btN n + 9223372036854775808) := by decide +kernel
theorem n_bat1 {h b x3 : Int32} (gh : ny_R h) (c : ¬ h = 0) (e3 : x3 = ny_ab h) (c2 : 0 ≤ h) : ((0 : Int64) ||| n_E1 x3) ||| n_E2 x3 = f_bt h b := by
  have hN := n_Np gh c
  rw [e3, n_abN gh]
  unfold f_bt
  rw [if_neg c, if_neg (by rw [fa_le] at c2; rw [fa_lt]; omega)]
  exact n_batp _ (by omega) (by omega)
theorem n_bat2 {h b x3 : Int32} (gh : ny_R h) (c : ¬ h = 0) (e3 : x3 = ny_ab h) (c2 : ¬ 0 ≤ h) : ((-9223372036854775808 : Int64) ||| n_E1 x3) ||| n_E2 x3 = f_bt h b := by
  have hN := n_Np gh c
  rw [e3, n_abN gh]
  unfold f_bt
  rw [if_neg c, if_pos (by rw [fa_le] at c2; rw [fa_lt]; omega)]
  exact n_batn _ (by omega) (by omega)
/-- the double of so many eighths -/
def f_num (h b : Int32) : UInt64 := if b = 0 then FP.ddiv (FP.i2d h) 4620693217682128896 else 9223372036854775808
theorem n_nump : ∀ n : Nat, n < 128 → FP.ddiv (FP.i2d (nI n)) 4620693217682128896 &&& 0x7fffffffffffffff ≤ (0x7ff0000000000000 : UInt64) := by decide +kernel
theorem n_numn : ∀ n : Nat, n < 128 → FP.ddiv (FP.i2d (-nI n)) 4620693217682128896 &&& 0x7fffffffffffffff ≤ (0x7ff0000000000000 : UInt64) := by decide +kernel
theorem n_pm {h : Int32} (gh : ny_R h) : ∃ n : Nat, n < 128 ∧ (h = nI n ∨ h = -nI n) := by
  unfold ny_R at gh
  refine ⟨h.toInt.natAbs, by omega, ?_⟩
  rcases Int.lt_or_le h.toInt 0 with q | q
  · right
    refine ny_eqI ?_
    rw [fb_negI (by rw [nI_toInt (by omega)]; omega), nI_toInt (by omega)]
    omega
  · left
    refine ny_eqI ?_
    rw [nI_toInt (by omega)]
    omega
theorem n_num {h : Int32} (gh : ny_R h) : vf_n64 (FP.ddiv (FP.i2d h) 4620693217682128896) := by
  obtain ⟨n, hn, rfl | rfl⟩ := n_pm gh
  · exact n_nump n hn
  · exact n_numn n hn
/-- the sum -/
def f_sum (hf : Nat → Int32) : Nat → Int32
  | 0 => 0
  | k + 1 => f_sum hf k + hf k
theorem n_sumS {hf : Nat → Int32} {k : Nat} (hk : k < 12) : f_sum hf k + hf (nI k).toNatClampNeg = f_sum hf (k + 1) := by
  rw [nI_clamp (by omega)]
  rfl
theorem n_lt12 {k : Nat} (h : k ≤ 12) (c : ¬ 12 ≤ nI k) : k < 12 := by
  rw [fa_le, nI_toInt (by omega)] at c
  have z : (12 : Int32).toInt = 12 := rfl
  omega
theorem n_ge12 {k : Nat} (h : k ≤ 12) (c : 12 ≤ nI k) : k = 12 := by
  rw [fa_le, nI_toInt (by omega)] at c
  have z : (12 : Int32).toInt = 12 := rfl
  omega
theorem n_ng0 {h : Int32} (c : ¬ h = 0) : ¬ -h = 0 := by
  intro q
  have h2 : h = 0 := by
    have h3 := congrArg (fun z => -z) q
    simpa using h3
  exact c h2
theorem n_tz1 {h b : Int32} (c : h = 0) (c2 : b = 0) : (1 : Int32) = f_z (-h) (1 - b) := by
  unfold f_z
  rw [c, c2]
  decide
theorem n_tz2 {h b : Int32} (c : h = 0) (c2 : ¬ b = 0) (gb : ny_B b) : (0 : Int32) = f_z (-h) (1 - b) := by
  rcases gb with gb | gb
  · exact absurd gb c2
  · unfold f_z
    rw [c, gb]
    decide
theorem n_tz3 {h b : Int32} (c : ¬ h = 0) : (0 : Int32) = f_z (-h) (1 - b) := by
  unfold f_z
  rw [if_neg (n_ng0 c)]
theorem n_1b {b : Int32} (gb : ny_B b) : ny_B (1 - b) := by
  rcases gb with rfl | rfl
  · exact Or.inr rfl
  · exact Or.inl rfl
theorem n_un1 {h b : Int32} (c : h < 0) : (1 : Int32) = f_un h b := (if_pos c).symm
theorem n_un2 {h b : Int32} (gb : ny_B b) (c : ¬ h < 0) (c2 : ¬ b = 0) : (1 : Int32) = f_un h b := by
  unfold f_un
  rw [if_neg c]
  rcases gb with gb | gb
  · exact absurd gb c2
  · exact gb.symm
theorem n_un3 {h b : Int32} (c : ¬ h < 0) (c2 : b = 0) : (0 : Int32) = f_un h b := by
  unfold f_un
  rw [if_neg c, c2]
theorem n_z1 {n u : Int32} (c : n = 0) (h : (1 : Int32) = u) : (1 : Int32) = f_z n u := by
  unfold f_z
  rw [if_pos c, h]
theorem n_z0 {n u : Int32} (h : (0 : Int32) = u) : (0 : Int32) = f_z n u := by
  rw [← h, f_z_0]
theorem n_zn {n u : Int32} (c : ¬ n = 0) : (0 : Int32) = f_z n u := by
  unfold f_z
  rw [if_neg c]

/-! THE CLAIM OUT OF ONE WALK OF THE LAW'S BODY. Your part is whole_start (and what it stands on); all else here is the same for every law, but numbers. -/
def R_law : String := "NearestclockLaw"
def lw_P (b : Addr) (xs : List Int32) (args : Array Value) (s : State) : Prop := args = #[.ref b] ∧ s.IntsAt b xs ∧ xs.length ≤ 2560 ∧ (Jvm.Cond.and given_1 narrow_1).before args s = true
/-- what a walk over the start with the record d0 says of its end, said of the start itself -/
theorem lw_closed {s t : State} {o : Outcome} {d0 : Drawn} {L : List Loc} {k n : Nat} (hd0 : s.drawn.sameBut d0 lw_cs) (hv : ∃ v, o = .returned v) (hW : (s.setDrawn d0).WarmedH t.vm) (hs : (s.setDrawn d0).sameButNew ({ t with vm := s.vm } : State) L k n) : State.butDraws s t lw_cs (fun t1 => Framed s o t1 L k n) := by
  have h2 : t.drawn = d0 := congrArg State.drawn hs.1
  refine ⟨⟨hv, hW, State.sameButNew.setDrawn hs s.drawn⟩, ?_, by decide⟩
  rw [h2]
  exact hd0
def lw_Q (_ : Array Value) (s : State) (o : Outcome) (t : State) : Prop := o = .returned (some (.int 1)) ∧ State.butDraws s t lw_cs (fun t1 => Framed s o t1 [] 3093 118940)
def lw_Z (below : List Frame) (a : Array Value) (s : State) : State → Prop := fun t => ∃ o, t.status = .running ∧ Ended t below o ∧ lw_Q a s o t
/-- the law's own end, with 1 on the stack, nothing written that was there before, its room as the claim has it; d0: the record of draws at this point (at the entry s.drawn: begin with 'refine W.base ?_' and 'have hd0 := Drawn.sameBut.refl s.drawn lw_cs') -/
theorem lw_ret {p : Program} {l : Launch} {e : Env} {s : State} {m : MethodId} {below : List Frame} {meth : Method} {c : Code} {b : Nat} {d0 : Drawn} (hd0 : s.drawn.sameBut d0 lw_cs) (hx : p.tables.exec = Jvm.exec) (hb : c.code = code) (hr : meth.sig.returnType = ret) (hlocks : meth.locks = false) {pc : Nat} {H : Heap} {ls : Array Slot} (hdg : decode code pc = .ok (.ireturn, 1)) : W p l e room_1 (s.setDrawn d0) m #[Value.ref b] below meth c H [] 3093 118940 (lw_Z below #[Value.ref b] s) (F0 m pc ls [.int 1]) := by
  intro T hT X
  obtain ⟨fs, hret, hrun, hended, hW, hframe⟩ := X.leave (v := some (.int 1)) (hlocks := hlocks) (fun h => by rw [hr] at h; cases h)
  have hmeth' : T.vm.method? m = some meth := X.method'
  refine ⟨T.setFrames fs, ?_, .returned (some (.int 1)), hrun, hended, rfl, lw_closed hd0 ⟨_, rfl⟩ hW hframe⟩
  jvm_step X.here [X.here.top, hx, hb, hdg, hmeth', hr, ret, narrow_b1]
  (try refine ⟨rfl, ?_⟩); (try refine ⟨rfl, ?_⟩)
  first | (intro acts; rw [hret _ acts rfl rfl rfl]) | rw [hret _ _ rfl rfl rfl]
  exact Steps.refl _
/-- what holds at the law's entry: the machine, the code, the tables' words (any of lw_tbl by 'hts w (by decide +kernel)'), the script of L ints xs at the cell b, what the Statement gives of the start (any of its parts by flat_of_before) -/
def lw_At (p : Program) (s : State) (m : MethodId) (meth : Method) (c : Code) (b L : Nat) (xs : Nat → Int32) : Prop :=
  p.tables.exec = Jvm.exec ∧ c.code = code ∧ meth.sig.returnType = ret ∧ c.maxLocals = 9 ∧ s.vm.findClass R_law = some m.cls ∧ (∀ w ∈ lw_tbl, w.before #[Value.ref b] s = true) ∧ va_X b L xs s s.heap ∧ b < s.heap.size ∧ meth.locks = false ∧ (Jvm.Cond.and given_1 narrow_1).before #[Value.ref b] s = true
set_option maxHeartbeats 4000000 in
set_option maxRecDepth 100000 in
/-- what stands at the law's entry, of throwing -/
theorem lw_ev {s : State} {b : Nat} {A : Nat → Prop} {cc : Nat} (hts : ∀ w ∈ lw_tbl, w.before #[Value.ref b] s = true) (hgv : (Jvm.Cond.and given_1 narrow_1).before #[Value.ref b] s = true) (hcur : s.vm.findClass RX1 = some cc) (hA : ∀ a : Nat, a < s.heap.size → ¬ A a) : ny_ev A s s.heap := by
  have hs := flat_of_before _ hgv
  refine ⟨⟨vx_Zqof (hts (.laysStatic Bundle.tN "UNASSIGNED_STACK" Bundle.steD) (by decide +kernel)) (hts (.initialized Bundle.tN) (by decide +kernel)) (hs (.isRef (.static Bundle.tN "UNASSIGNED_STACK" Bundle.steD)) (by decide +kernel)) hA, vx_Zqof (hts (.laysStatic Bundle.tN "SUPPRESSED_SENTINEL" Bundle.listD) (by decide +kernel)) (hts (.initialized Bundle.tN) (by decide +kernel)) (hs (.isRef (.static Bundle.tN "SUPPRESSED_SENTINEL" Bundle.listD)) (by decide +kernel)) hA⟩, ?_, ?_, ?_, ?_, ?_, ?_⟩
  · have h : ∀ q ∈ ny_texts, Cond.stringRef RX1 q.1 q.2 ∈ lw_tbl := by decide +kernel
    intro q hq
    have h1 := hts _ (h q hq)
    obtain ⟨k, cf, j, a, hk, -, -, -, hr, hev⟩ := Cond.stringRef_spec hcur h1
    exact ⟨a, vk_R.of h1 hev⟩
  · have h : ∀ q ∈ ny_fn, Cond.fieldLinkNest RX1 q.1 RX0 q.2.1 q.2.2 RX1 ∈ lw_tbl := by decide +kernel
    exact fun q hq => va_Nw.of rfl (hts _ (h q hq))
  · have h : ∀ q ∈ ny_mn, Cond.methodLinkNest q.1 q.2.1 q.2.2 RX1 ∈ lw_tbl := by decide +kernel
    exact fun q hq => va_Nw.of rfl (hts _ (h q hq))
  · have h : ∀ q ∈ ny_cs, Cond.castable q q ∈ lw_tbl := by decide +kernel
    exact fun q hq => va_Nw.of rfl (hts _ (h q hq))
  · have h : ∀ q ∈ ny_nc, Cond.not (.castable q.1 q.2) ∈ flatC (Jvm.Cond.and given_1 narrow_1) := by decide +kernel
    exact fun q hq => va_Nc.of (hs _ (h q hq))
  · have h : ∀ q ∈ ny_ds, Cond.declares q ∈ lw_tbl := by decide +kernel
    exact fun q hq => va_Nw.of rfl (hts _ (h q hq))
theorem n_and31 (x : Int32) : 0 ≤ (x &&& 31).toInt ∧ (x &&& 31).toInt ≤ 31 := by
  have h : ∀ v : BitVec 32, 0 ≤ (v &&& 31#32).toInt ∧ (v &&& 31#32).toInt ≤ 31 := by
    intro v
    have h1 : (v &&& 31#32).toNat ≤ 31 := by rw [BitVec.toNat_and]; exact Nat.and_le_right
    have h2 := BitVec.toInt_eq_toNat_of_lt (x := v &&& 31#32) (by omega)
    omega
  exact h x.toBitVec
theorem n_inc5 (k : Nat) : nI (5 * k) + Int32.ofInt 5 = nI (5 * (k + 1)) := by
  have h : nI (5 * k) + Int32.ofInt 5 = nI (5 * k + 5) := nI_add (5 * k) 5
  rw [h]
  exact congrArg nI (by omega)
theorem n_hi {L n : Nat} (j : Nat) (h : n + j < L) (hL : L ≤ 2560) : vp_in (nI n + nI j) L := by
  rw [nI_add]
  exact vp_in_nI h (by omega)
set_option maxHeartbeats 4000000 in
set_option maxRecDepth 100000 in
/-- THE LAW'S LOOP -/
theorem lw_loop {p : Program} {l : Launch} {e : Env} {s : State} {m : MethodId} {below : List Frame} {meth : Method} {c : Code} {D : va_G} {A : Nat → Prop} {b L : Nat} {xs : Nat → Int32} {cI cZ cL cD : ClassId} {o q1 q2 q3 q4 q5 q6 mo m1 m2 m3 m4 qL qD : Nat} (hx : p.tables.exec = Jvm.exec) (hb : c.code = cL_law) (hml : c.maxLocals = 9) (hown : s.vm.findClass RL = some m.cls) (hts : ∀ w ∈ wsL_law, w.before #[Value.ref b] s = true) (gl : l.stackTraces = false) (hE : ny_ev A s s.heap) (hK : va_K D vwCl [(cI, .int), (cZ, .boolean), (cL, .long), (cD, .double)] s) (hX : va_X b L xs s s.heap) (hbl : b < s.heap.size) (hbA : ¬ A b) (hA : ∀ q : Nat, s.heap.size ≤ q → A q) (hr : meth.sig.returnType = ret) (hlocks : meth.locks = false) (hA2 : ∀ q : Nat, A q → s.heap.size ≤ q) (hL : L ≤ 2560) : ∀ (n k : Nat), L + 5 ≤ 5 * k + n → 5 * k ≤ L → ∀ (hf : Nat → Int32) (bf : Nat → Int32) (tr : Nat → Int32) (sr : Nat → Int32) (mt : Nat → Int32) (lf : Nat → Int64) (df : Nat → UInt64) (tc : Int32) (tl : Int32) (te : Int32) (sc : Int32) (sl : Int32) (se : Int32) (th : Int32) (ls : Array Slot) (H : Heap) (locs : List Loc), ny_H hf → ny_BB bf → 0 ≤ tc.toInt → tc.toInt ≤ 7 → lv_has ls 9 [(5, .int (nI (5 * k))), (0, .ref b), (1, .ref o), (2, .ref mo), (3, .ref qL), (4, .ref qD)] → va_P D vwCl [(o, .inr (3, [.ref q1, .ref q2, .ref q3, .ref q4])), (q1, .inl (cI, 12, .inl hf)), (q2, .inl (cZ, 12, .inl bf)), (q3, .inr (2, [.ref q5, .int tc, .int tl, .int te])), (q5, .inl (cI, 7, .inl tr)), (q4, .inr (2, [.ref q6, .int sc, .int sl, .int se])), (q6, .inl (cI, 7, .inl sr)), (mo, .inr (4, [.int th, .ref m1, .ref m2, .ref m3, .ref m4, .int tc])), (m1, .inl (cI, 12, .inl hf)), (m2, .inl (cZ, 12, .inl bf)), (m3, .inl (cI, 16, .inl tr)), (m4, .inl (cI, 16, .inl mt)), (qL, .inl (cL, 1, .inr (.inl lf))), (qD, .inl (cD, 1, .inr (.inr (.inr (.inl df)))))] H → va_D A [(o, .inr (3, [.ref q1, .ref q2, .ref q3, .ref q4])), (q1, .inl (cI, 12, .inl hf)), (q2, .inl (cZ, 12, .inl bf)), (q3, .inr (2, [.ref q5, .int tc, .int tl, .int te])), (q5, .inl (cI, 7, .inl tr)), (q4, .inr (2, [.ref q6, .int sc, .int sl, .int se])), (q6, .inl (cI, 7, .inl sr)), (mo, .inr (4, [.int th, .ref m1, .ref m2, .ref m3, .ref m4, .int tc])), (m1, .inl (cI, 12, .inl hf)), (m2, .inl (cZ, 12, .inl bf)), (m3, .inl (cI, 16, .inl tr)), (m4, .inl (cI, 16, .inl mt)), (qL, .inl (cL, 1, .inr (.inl lf))), (qD, .inl (cD, 1, .inr (.inr (.inr (.inl df)))))] → va_S A s.heap H locs → W p l e room_1 s m #[Value.ref b] below meth c H locs (14 + k) (114 + 6 * k) (lw_Z below #[Value.ref b] s) (F0 m 28 ls []) := by
  intro n
  induction n with
  | zero =>
    intro k h1 h2
    omega
  | succ n ih =>
    intro k h1 h2 hf bf tr sr mt lf df tc tl te sc sl se th ls H locs gH gB g0t g7 hl hP hD hS
    refine lv_iload hx hb dL_law_28 (lv_at hl 0 rfl) ?_
    refine lv_aload_n hx hb dL_law_30 rfl (lv_at hl 1 rfl) ?_
    refine va_slen hx hb hX hbl hbA hS dL_law_31 ?_
    refine lv_iconst (v := 5) hx hb dL_law_32 (by decide) ?_
    refine lv_isub hx hb dL_law_33 ?_
    refine lv_icmp_gt (tgt := 2099) hx hb dL_law_34 (by decide) (fun c_34 => ?_) (fun c_34 => ?_)
    · refine lv_iconst (v := 1) hx hb dL_law_2099 (by decide) ?_
      refine va_forget (fun q hq => hA2 _ (hS.2.2 q hq)) ?_
      refine W.widen (k := 3093) (n := 118940) (by omega) (by omega) ?_
      refine W.base ?_
      exact lw_ret (Drawn.sameBut.refl s.drawn lw_cs) hx hb hr hlocks dL_law_2100
    · have hk5 : 5 * k + 5 ≤ L := by rw [fa_lt, nI_toInt (by omega)] at c_34; have z5 : (5 : Int32).toInt = 5 := rfl; have zL : (Int32.ofNat L).toInt = L := nI_toInt (by omega); have zs : (Int32.ofNat L - 5).toInt = (Int32.ofNat L).toInt - (5 : Int32).toInt := fb_subI (by omega) (by omega); omega
      refine lv_aload_n hx hb dL_law_37 rfl (lv_at hl 1 rfl) ?_
      refine lv_iload hx hb dL_law_38 (lv_at hl 0 rfl) ?_
      refine va_sld hx hb hX hbl hbA hS ((vp_in_nI (by omega) (by omega))) dL_law_40 ?_
      refine lv_bipush (v := 31) hx hb dL_law_41 (by decide) ?_
      refine lv_iand hx hb dL_law_43 ?_
      have kk : ∀ (hf : Nat → Int32) (bf : Nat → Int32) (tr : Nat → Int32) (sr : Nat → Int32) (mt : Nat → Int32) (lf : Nat → Int64) (df : Nat → UInt64) (tc : Int32) (tl : Int32) (te : Int32) (sc : Int32) (sl : Int32) (se : Int32) (th : Int32) (ls : Array Slot) (H : Heap) (locs : List Loc), ny_H hf → ny_BB bf → 0 ≤ tc.toInt → tc.toInt ≤ 7 → lv_has ls 9 [(5, .int (nI (5 * k))), (0, .ref b), (1, .ref o), (2, .ref mo), (3, .ref qL), (4, .ref qD)] → va_P D vwCl [(o, .inr (3, [.ref q1, .ref q2, .ref q3, .ref q4])), (q1, .inl (cI, 12, .inl hf)), (q2, .inl (cZ, 12, .inl bf)), (q3, .inr (2, [.ref q5, .int tc, .int tl, .int te])), (q5, .inl (cI, 7, .inl tr)), (q4, .inr (2, [.ref q6, .int sc, .int sl, .int se])), (q6, .inl (cI, 7, .inl sr)), (mo, .inr (4, [.int th, .ref m1, .ref m2, .ref m3, .ref m4, .int tc])), (m1, .inl (cI, 12, .inl hf)), (m2, .inl (cZ, 12, .inl bf)), (m3, .inl (cI, 16, .inl tr)), (m4, .inl (cI, 16, .inl mt)), (qL, .inl (cL, 1, .inr (.inl lf))), (qD, .inl (cD, 1, .inr (.inr (.inr (.inl df)))))] H → va_D A [(o, .inr (3, [.ref q1, .ref q2, .ref q3, .ref q4])), (q1, .inl (cI, 12, .inl hf)), (q2, .inl (cZ, 12, .inl bf)), (q3, .inr (2, [.ref q5, .int tc, .int tl, .int te])), (q5, .inl (cI, 7, .inl tr)), (q4, .inr (2, [.ref q6, .int sc, .int sl, .int se])), (q6, .inl (cI, 7, .inl sr)), (mo, .inr (4, [.int th, .ref m1, .ref m2, .ref m3, .ref m4, .int tc])), (m1, .inl (cI, 12, .inl hf)), (m2, .inl (cZ, 12, .inl bf)), (m3, .inl (cI, 16, .inl tr)), (m4, .inl (cI, 16, .inl mt)), (qL, .inl (cL, 1, .inr (.inl lf))), (qD, .inl (cD, 1, .inr (.inr (.inr (.inl df)))))] → va_S A s.heap H locs → W p l e room_1 s m #[Value.ref b] below meth c H locs (14 + k + 1) (114 + 6 * k + 6) (lw_Z below #[Value.ref b] s) (F0 m 2093 ls []) := by
        intro hf bf tr sr mt lf df tc tl te sc sl se th ls H locs gH gB g0t g7 hl hP hD hS
        refine lv_iinc (v := nI (5 * (k + 1))) (lv' := [(5, .int (nI (5 * (k + 1)))), (0, .ref b), (1, .ref o), (2, .ref mo), (3, .ref qL), (4, .ref qD)]) hx hb dL_law_2093 hl (k := 0) rfl (n_inc5 k) (by decide) rfl (fun ls hl => ?_)
        refine lv_goto (tgt := 28) hx hb dL_law_2096 (by decide) ?_
        refine W.widen (k := 14 + (k + 1)) (n := 114 + 6 * (k + 1)) (by omega) (by omega) ?_
        exact ih (k + 1) (by omega) (by omega) hf bf tr sr mt lf df tc tl te sc sl se th ls H locs gH gB g0t g7 hl hP hD hS
      obtain ⟨z1, z2⟩ := n_and31 (xs (nI (5 * k)).toNatClampNeg)
      have hrc : room_1.cells = 3093 := rfl
      have hrs : room_1.slots = 118940 := rfl
      have hi1 : vp_in (nI (5 * k) + 1) L := n_hi 1 (by omega) hL
      have hi2 : vp_in (nI (5 * k) + 2) L := n_hi 2 (by omega) hL
      have hi3 : vp_in (nI (5 * k) + 3) L := n_hi 3 (by omega) hL
      have hi4 : vp_in (nI (5 * k) + 4) L := n_hi 4 (by omega) hL
      generalize xs (nI (5 * k)).toNatClampNeg &&& 31 = wv at z1 z2 ⊢
      rcases (show wv.toInt = 0 ∨ wv.toInt = 1 ∨ wv.toInt = 2 ∨ wv.toInt = 3 ∨ wv.toInt = 4 ∨ wv.toInt = 5 ∨ wv.toInt = 6 ∨ wv.toInt = 7 ∨ wv.toInt = 8 ∨ wv.toInt = 9 ∨ wv.toInt = 10 ∨ wv.toInt = 11 ∨ wv.toInt = 12 ∨ wv.toInt = 13 ∨ wv.toInt = 14 ∨ wv.toInt = 15 ∨ wv.toInt = 16 ∨ wv.toInt = 17 ∨ wv.toInt = 18 ∨ wv.toInt = 19 ∨ wv.toInt = 20 ∨ wv.toInt = 21 ∨ wv.toInt = 22 ∨ wv.toInt = 23 ∨ wv.toInt = 24 ∨ wv.toInt = 25 ∨ wv.toInt = 26 ∨ wv.toInt = 27 ∨ wv.toInt = 28 ∨ 28 < wv.toInt by omega) with h9 | h9 | h9 | h9 | h9 | h9 | h9 | h9 | h9 | h9 | h9 | h9 | h9 | h9 | h9 | h9 | h9 | h9 | h9 | h9 | h9 | h9 | h9 | h9 | h9 | h9 | h9 | h9 | h9 | h9
      · refine lv_tableIn (off := 132) (tgt := 176) hx hb dL_law_44 (by omega) (by omega) (by rw [h9]; rfl) (by decide) ?_
        exact lw_c0 hx hb hml hown hts gl hE hK hX hbl hbA hA (by omega) (by omega) hi1 hi2 hi3 hi4 gH gB g0t g7 hP hD hS hl kk
      · refine lv_tableIn (off := 199) (tgt := 243) hx hb dL_law_44 (by omega) (by omega) (by rw [h9]; rfl) (by decide) ?_
        exact lw_c1 hx hb hml hown hts gl hE hK hX hbl hbA hA (by omega) (by omega) hi1 hi2 hi3 hi4 gH gB g0t g7 hP hD hS hl kk
      · refine lv_tableIn (off := 254) (tgt := 298) hx hb dL_law_44 (by omega) (by omega) (by rw [h9]; rfl) (by decide) ?_
        exact lw_c2 hx hb hml hown hts gl hE hK hX hbl hbA hA (by omega) (by omega) hi1 hi2 hi3 hi4 gH gB g0t g7 hP hD hS hl kk
      · refine lv_tableIn (off := 309) (tgt := 353) hx hb dL_law_44 (by omega) (by omega) (by rw [h9]; rfl) (by decide) ?_
        exact lw_c3 hx hb hml hown hts gl hE hK hX hbl hbA hA (by omega) (by omega) hi1 hi2 hi3 hi4 gH gB g0t g7 hP hD hS hl kk
      · refine lv_tableIn (off := 365) (tgt := 409) hx hb dL_law_44 (by omega) (by omega) (by rw [h9]; rfl) (by decide) ?_
        exact lw_c4 hx hb hml hown hts gl hE hK hX hbl hbA hA (by omega) (by omega) hi1 hi2 hi3 hi4 gH gB g0t g7 hP hD hS hl kk
      · refine lv_tableIn (off := 420) (tgt := 464) hx hb dL_law_44 (by omega) (by omega) (by rw [h9]; rfl) (by decide) ?_
        exact lw_c5 hx hb hml hown hts gl hE hK hX hbl hbA hA (by omega) (by omega) hi1 hi2 hi3 hi4 gH gB g0t g7 hP hD hS hl kk
      · refine lv_tableIn (off := 497) (tgt := 541) hx hb dL_law_44 (by omega) (by omega) (by rw [h9]; rfl) (by decide) ?_
        exact lw_c6 hx hb hml hown hts gl hE hK hX hbl hbA hA (by omega) (by omega) hi1 hi2 hi3 hi4 gH gB g0t g7 hP hD hS hl kk
      · refine lv_tableIn (off := 576) (tgt := 620) hx hb dL_law_44 (by omega) (by omega) (by rw [h9]; rfl) (by decide) ?_
        exact lw_c7 hx hb hml hown hts gl hE hK hX hbl hbA hA (by omega) (by omega) hi1 hi2 hi3 hi4 gH gB g0t g7 hP hD hS hl kk
      · refine lv_tableIn (off := 655) (tgt := 699) hx hb dL_law_44 (by omega) (by omega) (by rw [h9]; rfl) (by decide) ?_
        exact lw_c8 hx hb hml hown hts gl hE hK hX hbl hbA hA (by omega) (by omega) hi1 hi2 hi3 hi4 gH gB g0t g7 hP hD hS hl kk
      · refine lv_tableIn (off := 723) (tgt := 767) hx hb dL_law_44 (by omega) (by omega) (by rw [h9]; rfl) (by decide) ?_
        exact lw_c9 hx hb hml hown hts gl hE hK hX hbl hbA hA (by omega) (by omega) hi1 hi2 hi3 hi4 gH gB g0t g7 hP hD hS hl kk
      · refine lv_tableIn (off := 798) (tgt := 842) hx hb dL_law_44 (by omega) (by omega) (by rw [h9]; rfl) (by decide) ?_
        exact lw_c10 hx hb hml hown hts gl hE hK hX hbl hbA hA (by omega) (by omega) hi1 hi2 hi3 hi4 gH gB g0t g7 hP hD hS hl kk
      · refine lv_tableIn (off := 877) (tgt := 921) hx hb dL_law_44 (by omega) (by omega) (by rw [h9]; rfl) (by decide) ?_
        exact lw_c11 hx hb hml hown hts gl hE hK hX hbl hbA hA (by omega) (by omega) hi1 hi2 hi3 hi4 gH gB g0t g7 hP hD hS hl kk
      · refine lv_tableIn (off := 945) (tgt := 989) hx hb dL_law_44 (by omega) (by omega) (by rw [h9]; rfl) (by decide) ?_
        exact lw_c12 hx hb hml hown hts gl hE hK hX hbl hbA hA (by omega) (by omega) hi1 hi2 hi3 hi4 gH gB g0t g7 hP hD hS hl kk
      · refine lv_tableIn (off := 1024) (tgt := 1068) hx hb dL_law_44 (by omega) (by omega) (by rw [h9]; rfl) (by decide) ?_
        exact lw_c13 hx hb hml hown hts gl hE hK hX hbl hbA hA (by omega) (by omega) hi1 hi2 hi3 hi4 gH gB g0t g7 hP hD hS hl kk
      · refine lv_tableIn (off := 1115) (tgt := 1159) hx hb dL_law_44 (by omega) (by omega) (by rw [h9]; rfl) (by decide) ?_
        exact lw_c14 hx hb hml hown hts gl hE hK hX hbl hbA hA (by omega) (by omega) hi1 hi2 hi3 hi4 gH gB g0t g7 hP hD hS hl kk
      · refine lv_tableIn (off := 1206) (tgt := 1250) hx hb dL_law_44 (by omega) (by omega) (by rw [h9]; rfl) (by decide) ?_
        exact lw_c15 hx hb hml hown hts gl hE hK hX hbl hbA hA (by omega) (by omega) hi1 hi2 hi3 hi4 gH gB g0t g7 hP hD hS hl kk
      · refine lv_tableIn (off := 1297) (tgt := 1341) hx hb dL_law_44 (by omega) (by omega) (by rw [h9]; rfl) (by decide) ?_
        exact lw_c16 hx hb hml hown hts gl hE hK hX hbl hbA hA (by omega) (by omega) hi1 hi2 hi3 hi4 gH gB g0t g7 hP hD hS hl kk
      · refine lv_tableIn (off := 1388) (tgt := 1432) hx hb dL_law_44 (by omega) (by omega) (by rw [h9]; rfl) (by decide) ?_
        exact lw_c17 hx hb hml hown hts gl hE hK hX hbl hbA hA (by omega) (by omega) hi1 hi2 hi3 hi4 gH gB g0t g7 hP hD hS hl kk
      · refine lv_tableIn (off := 1479) (tgt := 1523) hx hb dL_law_44 (by omega) (by omega) (by rw [h9]; rfl) (by decide) ?_
        exact lw_c18 hx hb hml hown hts gl hE hK hX hbl hbA hA (by omega) (by omega) hi1 hi2 hi3 hi4 gH gB g0t g7 hP hD hS hl kk
      · refine lv_tableIn (off := 1558) (tgt := 1602) hx hb dL_law_44 (by omega) (by omega) (by rw [h9]; rfl) (by decide) ?_
        exact lw_c19 hx hb hml hown hts gl hE hK hX hbl hbA hA (by omega) (by omega) hi1 hi2 hi3 hi4 gH gB g0t g7 hP hD hS hl kk
      · refine lv_tableIn (off := 1626) (tgt := 1670) hx hb dL_law_44 (by omega) (by omega) (by rw [h9]; rfl) (by decide) ?_
        exact lw_c20 hx hb hml hown hts gl hE hK hX hbl hbA hA (by omega) (by omega) hi1 hi2 hi3 hi4 gH gB g0t g7 hP hD hS hl kk
      · refine lv_tableIn (off := 1705) (tgt := 1749) hx hb dL_law_44 (by omega) (by omega) (by rw [h9]; rfl) (by decide) ?_
        exact lw_c21 hx hb hml hown hts gl hE hK hX hbl hbA hA (by omega) (by omega) hi1 hi2 hi3 hi4 gH gB g0t g7 hP hD hS hl kk
      · refine lv_tableIn (off := 1773) (tgt := 1817) hx hb dL_law_44 (by omega) (by omega) (by rw [h9]; rfl) (by decide) ?_
        exact lw_c22 hx hb hml hown hts gl hE hK hX hbl hbA hA (by omega) (by omega) hi1 hi2 hi3 hi4 gH gB g0t g7 hP hD hS hl kk
      · refine lv_tableIn (off := 1841) (tgt := 1885) hx hb dL_law_44 (by omega) (by omega) (by rw [h9]; rfl) (by decide) ?_
        exact lw_c23 hx hb hml hown hts gl hE hK hX hbl hbA hA (by omega) (by omega) hi1 hi2 hi3 hi4 gH gB g0t g7 hP hD hS hl kk
      · refine lv_tableIn (off := 1897) (tgt := 1941) hx hb dL_law_44 (by omega) (by omega) (by rw [h9]; rfl) (by decide) ?_
        exact lw_c24 hx hb hml hown hts gl hE hK hX hbl hbA hA (by omega) (by omega) hi1 hi2 hi3 hi4 gH gB g0t g7 hP hD hS hl kk
      · refine lv_tableIn (off := 1953) (tgt := 1997) hx hb dL_law_44 (by omega) (by omega) (by rw [h9]; rfl) (by decide) ?_
        exact lw_c25 hx hb hml hown hts gl hE hK hX hbl hbA hA (by omega) (by omega) hi1 hi2 hi3 hi4 gH gB g0t g7 hP hD hS hl kk
      · refine lv_tableIn (off := 2009) (tgt := 2053) hx hb dL_law_44 (by omega) (by omega) (by rw [h9]; rfl) (by decide) ?_
        exact lw_c26 hx hb hml hown hts gl hE hK hX hbl hbA hA (by omega) (by omega) hi1 hi2 hi3 hi4 gH gB g0t g7 hP hD hS hl kk
      · refine lv_tableIn (off := 2022) (tgt := 2066) hx hb dL_law_44 (by omega) (by omega) (by rw [h9]; rfl) (by decide) ?_
        exact lw_c27 hx hb hml hown hts gl hE hK hX hbl hbA hA (by omega) (by omega) hi1 hi2 hi3 hi4 gH gB g0t g7 hP hD hS hl kk
      · refine lv_tableIn (off := 2036) (tgt := 2080) hx hb dL_law_44 (by omega) (by omega) (by rw [h9]; rfl) (by decide) ?_
        exact lw_c28 hx hb hml hown hts gl hE hK hX hbl hbA hA (by omega) (by omega) hi1 hi2 hi3 hi4 gH gB g0t g7 hP hD hS hl kk
      · refine lv_tableOut (tgt := 2093) hx hb dL_law_44 (Or.inr h9) (by decide) ?_
        refine W.widen (k := 14 + k + 1) (n := 114 + 6 * k + 6) (by omega) (by omega) ?_
        exact kk hf bf tr sr mt lf df tc tl te sc sl se th ls H locs gH gB g0t g7 hl hP hD hS
theorem in_L_law_X1 : ∀ w ∈ wsX10, w ∈ wsL_law := inlX1
theorem in_L_law_X2 : ∀ w ∈ wsX20, w ∈ wsL_law := inlX2
set_option maxHeartbeats 4000000 in
set_option maxRecDepth 100000 in
/-- THE LAW, from its entry -/
theorem whole_start {p : Program} {e : Env} {s : State} {m : MethodId} {below : List Frame} {meth : Method} {c : Code} (l : Launch) (hflags : l.flags = flags0) {b L : Nat} {xs : Nat → Int32} (hL : L ≤ 2560) (C0 : lw_At p s m meth c b L xs) : W p l e room_1 s m #[Value.ref b] below meth c s.heap [] 0 0 (lw_Z below #[Value.ref b] s) (entryFrame m ([Value.ref b] : List Value).toArray 9) := by
  obtain ⟨hx, hb, hr, hml, hown, hts0, hX, hbl, hlocks, hgv⟩ := id C0
  have hown : s.vm.findClass RL = some m.cls := hown
  have gl : l.stackTraces = false := by
    unfold Launch.stackTraces
    rw [hflags]
    first | decide +kernel | simp [flags0]
  have hts : ∀ w ∈ wsL_law, w.before #[Value.ref b] s = true := fun w h => hts0 w (wsL_law_in w h)
  obtain ⟨c0, iS0, hKn0⟩ := u_known (C := RJ0) (T := TJ0) (N := 2) (n := 4) hts0 inJ0 (hts0 (.instantiable RJ0 4) (by decide +kernel))
  obtain ⟨c1, iS1, hKn1⟩ := u_known (C := RJx00060) (T := TJx00060) (N := 6) (n := 6) hts0 inJx00060 (hts0 (.instantiable RJx00060 6) (by decide +kernel))
  obtain ⟨c2, iS2, hKn2⟩ := u_known (C := RX0) (T := TX0) (N := 4) (n := 4) hts0 inX0 (hts0 (.instantiable RX0 4) (by decide +kernel))
  obtain ⟨c3, iS3, hKn3⟩ := u_known (C := RX1) (T := TX1) (N := 4) (n := 4) hts0 inX1 (hts0 (.instantiable RX1 4) (by decide +kernel))
  obtain ⟨c4, iS4, hKn4⟩ := u_known (C := RX2) (T := TX2) (N := 6) (n := 6) hts0 inX2 (hts0 (.instantiable RX2 6) (by decide +kernel))
  obtain ⟨A, hAd⟩ : ∃ A : Nat → Prop, A = fun q : Nat => s.heap.size ≤ q := ⟨_, rfl⟩
  have hA : ∀ q : Nat, s.heap.size ≤ q → A q := fun q h => by rw [hAd]; exact h
  have hA2 : ∀ q : Nat, A q → s.heap.size ≤ q := fun q h => by rw [hAd] at h; exact h
  have hbA : ¬ A b := fun h => Nat.not_le.mpr hbl (hA2 b h)
  have hE : ny_ev A s s.heap := lw_ev hts0 hgv hKn3.2.1 (fun a h h2 => Nat.not_le.mpr h (hA2 a h2))
  obtain ⟨D, hKc⟩ : ∃ D : va_G, ∀ (k : Nat) (q : vw_C), vwCl[k]? = some q → u_Kn s q.1 q.2.1 q.2.2 (D.1 k) (D.2 k) := by
    refine ⟨(fun k => if k = 0 then c0 else if k = 1 then c1 else if k = 2 then c2 else if k = 3 then c3 else c4, fun k => if k = 0 then iS0 else if k = 1 then iS1 else if k = 2 then iS2 else if k = 3 then iS3 else iS4), ?_⟩
    intro k q hq
    match k, hq with
    | 0, hq => cases hq; exact hKn0
    | 1, hq => cases hq; exact hKn1
    | 2, hq => cases hq; exact hKn2
    | 3, hq => cases hq; exact hKn3
    | 4, hq => cases hq; exact hKn4
    | k + 5, hq => simp at hq
  have hS : va_S A s.heap s.heap [] := va_S.rf
  have hK : va_K D vwCl [] s := ⟨hKc, fun k q h => by simp at h⟩
  have hP : va_P D vwCl [] s.heap := fun k q h => by simp at h
  have hD : va_D A [] := ⟨fun i j p q h => by simp at h, fun k q h => by simp at h⟩
  have hl := lv_entry ([.ref b]) (n := 9) (Nat.le_of_ble_eq_true rfl)
  rw [lg_entry_eq]
  generalize (lg_sl ([.ref b]) ++ List.replicate (9 - (lg_sl ([.ref b])).length) Slot.unset).toArray = ls at hl ⊢
  have hl : lv_has ls 9 [(0, .ref b)] := hl
  refine va_new (ci := 3) (fs := [.null, .null, .null, .null]) (C := RX1) (T := TX1) (N := 4) hx hb hts in_L_law_X1 tyX1 tyX1_ok hown (hts (.classLink RL 8 RX1) (List.mem_of_getElem? (i := 0) rfl)) (hts (.instantiable RX1 4) (List.mem_of_getElem? (i := 1) rfl)) (hts (.initialized RX1) (List.mem_of_getElem? (i := 2) rfl)) hK hP hD hS hA rfl (fun j hj => by rcases (show j = 0 ∨ j = 1 ∨ j = 2 ∨ j = 3 by omega) with rfl | rfl | rfl | rfl <;> rfl) (Nat.le_of_ble_eq_true rfl) (Nat.le_of_ble_eq_true rfl) dL_law_0 (fun ny_o0 H hP hD hS => ?_)
  have hP : va_P D vwCl [(ny_o0, .inr (3, [.null, .null, .null, .null]))] H := hP
  have hD : va_D A [(ny_o0, .inr (3, [.null, .null, .null, .null]))] := hD
  refine lv_dup hx hb dL_law_3 rfl ?_
  refine ny_vK (wc := [(ny_o0, .inr (3, [.null, .null, .null, .null]))]) (wr := []) hP hD hS hA [0] [] rfl rfl (by decide) (by decide) (va_runI (As := []) (rest := [.ref ny_o0]) ⟨hx, hb, hml, hown, hts⟩ (c_X1_init l D ny_o0 H.size) (cwI 0 hts gL_law_X1_init rfl rfl rfl (hts (.initialized RX1) (List.mem_of_getElem? (i := 2) rfl)) (hts (.methodLink RL 101 yX1_init) (List.mem_of_getElem? (i := 8) rfl)) (hts (.instanceMethod yX1_init) (List.mem_of_getElem? (i := 9) rfl)) rfl (by decide +kernel) ⟨Nat.le_of_ble_eq_true rfl, Nat.le_of_ble_eq_true rfl⟩) ⟨ny_blind, fun U hU hW => ⟨rfl, ny_preU hE hP hK hD hS hA [0] rfl (by decide) rfl [] rfl U hU hW⟩⟩ rfl rfl hl.1 rfl (lv_room (Nat.le_of_ble_eq_true rfl)) dL_law_4 ⟨Nat.le_of_ble_eq_true rfl, Nat.le_of_ble_eq_true rfl⟩) (fun u H locs hK1 hw_4 hP hD hS => ?_)
  obtain ⟨q1_4, q2_4, q3_4, q5_4, q4_4, q6_4, cI_4, cZ_4⟩ := u
  have hK : va_K D vwCl [(cI_4, .int), (cZ_4, .boolean)] s := hK.app hK1
  have hP : va_P D vwCl [(ny_o0, .inr (3, [.ref q1_4, .ref q2_4, .ref q3_4, .ref q4_4])), (q1_4, .inl (cI_4, 12, .inl (fun _ => 0))), (q2_4, .inl (cZ_4, 12, .inl (fun _ => 0))), (q3_4, .inr (2, [.ref q5_4, .int 0, .int 0, .int 0])), (q5_4, .inl (cI_4, 7, .inl (fun _ => 0))), (q4_4, .inr (2, [.ref q6_4, .int 0, .int 0, .int 0])), (q6_4, .inl (cI_4, 7, .inl (fun _ => 0)))] H := hP
  have hD : va_D A [(ny_o0, .inr (3, [.ref q1_4, .ref q2_4, .ref q3_4, .ref q4_4])), (q1_4, .inl (cI_4, 12, .inl (fun _ => 0))), (q2_4, .inl (cZ_4, 12, .inl (fun _ => 0))), (q3_4, .inr (2, [.ref q5_4, .int 0, .int 0, .int 0])), (q5_4, .inl (cI_4, 7, .inl (fun _ => 0))), (q4_4, .inr (2, [.ref q6_4, .int 0, .int 0, .int 0])), (q6_4, .inl (cI_4, 7, .inl (fun _ => 0)))] := hD
  refine lv_astore_n (lv' := [(1, .ref ny_o0), (0, .ref b)]) hx hb dL_law_7 rfl hl (by decide) rfl (fun ls hl => ?_)
  refine va_new (ci := 4) (fs := [.int 0, .null, .null, .null, .null, .int 0]) (C := RX2) (T := TX2) (N := 6) hx hb hts in_L_law_X2 tyX2 tyX2_ok hown (hts (.classLink RL 102 RX2) (List.mem_of_getElem? (i := 3) rfl)) (hts (.instantiable RX2 6) (List.mem_of_getElem? (i := 4) rfl)) (hts (.initialized RX2) (List.mem_of_getElem? (i := 5) rfl)) hK hP hD hS hA rfl (fun j hj => by rcases (show j = 0 ∨ j = 1 ∨ j = 2 ∨ j = 3 ∨ j = 4 ∨ j = 5 by omega) with rfl | rfl | rfl | rfl | rfl | rfl <;> rfl) (Nat.le_of_ble_eq_true rfl) (Nat.le_of_ble_eq_true rfl) dL_law_8 (fun ny_o8 H hP hD hS => ?_)
  have hP : va_P D vwCl [(ny_o0, .inr (3, [.ref q1_4, .ref q2_4, .ref q3_4, .ref q4_4])), (q1_4, .inl (cI_4, 12, .inl (fun _ => 0))), (q2_4, .inl (cZ_4, 12, .inl (fun _ => 0))), (q3_4, .inr (2, [.ref q5_4, .int 0, .int 0, .int 0])), (q5_4, .inl (cI_4, 7, .inl (fun _ => 0))), (q4_4, .inr (2, [.ref q6_4, .int 0, .int 0, .int 0])), (q6_4, .inl (cI_4, 7, .inl (fun _ => 0))), (ny_o8, .inr (4, [.int 0, .null, .null, .null, .null, .int 0]))] H := hP
  have hD : va_D A [(ny_o0, .inr (3, [.ref q1_4, .ref q2_4, .ref q3_4, .ref q4_4])), (q1_4, .inl (cI_4, 12, .inl (fun _ => 0))), (q2_4, .inl (cZ_4, 12, .inl (fun _ => 0))), (q3_4, .inr (2, [.ref q5_4, .int 0, .int 0, .int 0])), (q5_4, .inl (cI_4, 7, .inl (fun _ => 0))), (q4_4, .inr (2, [.ref q6_4, .int 0, .int 0, .int 0])), (q6_4, .inl (cI_4, 7, .inl (fun _ => 0))), (ny_o8, .inr (4, [.int 0, .null, .null, .null, .null, .int 0]))] := hD
  refine lv_dup hx hb dL_law_11 rfl ?_
  refine ny_vK (wc := [(ny_o8, .inr (4, [.int 0, .null, .null, .null, .null, .int 0]))]) (wr := [(ny_o0, .inr (3, [.ref q1_4, .ref q2_4, .ref q3_4, .ref q4_4])), (q1_4, .inl (cI_4, 12, .inl (fun _ => 0))), (q2_4, .inl (cZ_4, 12, .inl (fun _ => 0))), (q3_4, .inr (2, [.ref q5_4, .int 0, .int 0, .int 0])), (q5_4, .inl (cI_4, 7, .inl (fun _ => 0))), (q4_4, .inr (2, [.ref q6_4, .int 0, .int 0, .int 0])), (q6_4, .inl (cI_4, 7, .inl (fun _ => 0)))]) hP hD hS hA [7] [0, 1, 2, 3, 4, 5, 6] rfl rfl (by decide) (by decide) (va_runI (As := []) (rest := [.ref ny_o8]) ⟨hx, hb, hml, hown, hts⟩ (c_X2_init l D ny_o8 H.size) (cwI 0 hts gL_law_X2_init rfl rfl rfl (hts (.initialized RX2) (List.mem_of_getElem? (i := 5) rfl)) (hts (.methodLink RL 104 yX2_init) (List.mem_of_getElem? (i := 27) rfl)) (hts (.instanceMethod yX2_init) (List.mem_of_getElem? (i := 28) rfl)) rfl (by decide +kernel) ⟨Nat.le_of_ble_eq_true rfl, Nat.le_of_ble_eq_true rfl⟩) ⟨ny_blind, fun U hU hW => ⟨rfl, ny_preU hE hP hK hD hS hA [7] rfl (by decide) rfl [] rfl U hU hW⟩⟩ rfl rfl hl.1 rfl (lv_room (Nat.le_of_ble_eq_true rfl)) dL_law_12 ⟨Nat.le_of_ble_eq_true rfl, Nat.le_of_ble_eq_true rfl⟩) (fun u H locs hK1 hw_12 hP hD hS => ?_)
  obtain ⟨m1_12, m2_12, m3_12, m4_12, cI_12, cZ_12⟩ := u
  have hK : va_K D vwCl [(cI_4, .int), (cZ_4, .boolean), (cI_12, .int), (cZ_12, .boolean)] s := hK.app hK1
  have hP : va_P D vwCl [(ny_o0, .inr (3, [.ref q1_4, .ref q2_4, .ref q3_4, .ref q4_4])), (q1_4, .inl (cI_4, 12, .inl (fun _ => 0))), (q2_4, .inl (cZ_4, 12, .inl (fun _ => 0))), (q3_4, .inr (2, [.ref q5_4, .int 0, .int 0, .int 0])), (q5_4, .inl (cI_4, 7, .inl (fun _ => 0))), (q4_4, .inr (2, [.ref q6_4, .int 0, .int 0, .int 0])), (q6_4, .inl (cI_4, 7, .inl (fun _ => 0))), (ny_o8, .inr (4, [.int 0, .ref m1_12, .ref m2_12, .ref m3_12, .ref m4_12, .int 0])), (m1_12, .inl (cI_12, 12, .inl (fun _ => 0))), (m2_12, .inl (cZ_12, 12, .inl (fun _ => 0))), (m3_12, .inl (cI_12, 16, .inl (fun _ => 0))), (m4_12, .inl (cI_12, 16, .inl (fun _ => 0)))] H := hP
  have hD : va_D A [(ny_o0, .inr (3, [.ref q1_4, .ref q2_4, .ref q3_4, .ref q4_4])), (q1_4, .inl (cI_4, 12, .inl (fun _ => 0))), (q2_4, .inl (cZ_4, 12, .inl (fun _ => 0))), (q3_4, .inr (2, [.ref q5_4, .int 0, .int 0, .int 0])), (q5_4, .inl (cI_4, 7, .inl (fun _ => 0))), (q4_4, .inr (2, [.ref q6_4, .int 0, .int 0, .int 0])), (q6_4, .inl (cI_4, 7, .inl (fun _ => 0))), (ny_o8, .inr (4, [.int 0, .ref m1_12, .ref m2_12, .ref m3_12, .ref m4_12, .int 0])), (m1_12, .inl (cI_12, 12, .inl (fun _ => 0))), (m2_12, .inl (cZ_12, 12, .inl (fun _ => 0))), (m3_12, .inl (cI_12, 16, .inl (fun _ => 0))), (m4_12, .inl (cI_12, 16, .inl (fun _ => 0)))] := hD
  have e_1 : cI_4 = cI_12 := (ny_oneI hK 0 2 rfl rfl).symm
  subst e_1
  have e_2 : cZ_4 = cZ_12 := (ny_oneZ hK 1 3 rfl rfl).symm
  subst e_2
  refine lv_astore_n (lv' := [(2, .ref ny_o8), (1, .ref ny_o0), (0, .ref b)]) hx hb dL_law_15 rfl hl (by decide) rfl (fun ls hl => ?_)
  refine lv_iconst (v := 1) hx hb dL_law_16 (by decide) ?_
  refine va_newa (atype := .long) (ty := .long) (N' := 1) (a0 := (1, .inr (.inl (fun _ => 0)))) hx hb (hts (.arrayClass .long) (List.mem_of_getElem? (i := 6) rfl)) rfl hK hP hD hS hA (fun cA => rfl) (by decide) (by decide) (show 1 * 8 ≤ 536870912 by omega) (Nat.le_of_ble_eq_true rfl) (Nat.le_of_ble_eq_true rfl) dL_law_17 (fun ny_a17 ny_c17 H hK hP hD hS => ?_)
  have hK : va_K D vwCl [(cI_4, .int), (cZ_4, .boolean), (cI_4, .int), (cZ_4, .boolean), (ny_c17, .long)] s := hK
  have hP : va_P D vwCl [(ny_o0, .inr (3, [.ref q1_4, .ref q2_4, .ref q3_4, .ref q4_4])), (q1_4, .inl (cI_4, 12, .inl (fun _ => 0))), (q2_4, .inl (cZ_4, 12, .inl (fun _ => 0))), (q3_4, .inr (2, [.ref q5_4, .int 0, .int 0, .int 0])), (q5_4, .inl (cI_4, 7, .inl (fun _ => 0))), (q4_4, .inr (2, [.ref q6_4, .int 0, .int 0, .int 0])), (q6_4, .inl (cI_4, 7, .inl (fun _ => 0))), (ny_o8, .inr (4, [.int 0, .ref m1_12, .ref m2_12, .ref m3_12, .ref m4_12, .int 0])), (m1_12, .inl (cI_4, 12, .inl (fun _ => 0))), (m2_12, .inl (cZ_4, 12, .inl (fun _ => 0))), (m3_12, .inl (cI_4, 16, .inl (fun _ => 0))), (m4_12, .inl (cI_4, 16, .inl (fun _ => 0))), (ny_a17, .inl (ny_c17, 1, .inr (.inl (fun _ => 0))))] H := hP
  have hD : va_D A [(ny_o0, .inr (3, [.ref q1_4, .ref q2_4, .ref q3_4, .ref q4_4])), (q1_4, .inl (cI_4, 12, .inl (fun _ => 0))), (q2_4, .inl (cZ_4, 12, .inl (fun _ => 0))), (q3_4, .inr (2, [.ref q5_4, .int 0, .int 0, .int 0])), (q5_4, .inl (cI_4, 7, .inl (fun _ => 0))), (q4_4, .inr (2, [.ref q6_4, .int 0, .int 0, .int 0])), (q6_4, .inl (cI_4, 7, .inl (fun _ => 0))), (ny_o8, .inr (4, [.int 0, .ref m1_12, .ref m2_12, .ref m3_12, .ref m4_12, .int 0])), (m1_12, .inl (cI_4, 12, .inl (fun _ => 0))), (m2_12, .inl (cZ_4, 12, .inl (fun _ => 0))), (m3_12, .inl (cI_4, 16, .inl (fun _ => 0))), (m4_12, .inl (cI_4, 16, .inl (fun _ => 0))), (ny_a17, .inl (ny_c17, 1, .inr (.inl (fun _ => 0))))] := hD
  refine lv_astore_n (lv' := [(3, .ref ny_a17), (2, .ref ny_o8), (1, .ref ny_o0), (0, .ref b)]) hx hb dL_law_19 rfl hl (by decide) rfl (fun ls hl => ?_)
  refine lv_iconst (v := 1) hx hb dL_law_20 (by decide) ?_
  refine va_newa (atype := .double) (ty := .double) (N' := 1) (a0 := (1, .inr (.inr (.inr (.inl (fun _ => 0)))))) hx hb (hts (.arrayClass .double) (List.mem_of_getElem? (i := 7) rfl)) rfl hK hP hD hS hA (fun cA => rfl) (by decide) (by decide) (show 1 * 8 ≤ 536870912 by omega) (Nat.le_of_ble_eq_true rfl) (Nat.le_of_ble_eq_true rfl) dL_law_21 (fun ny_a21 ny_c21 H hK hP hD hS => ?_)
  have hK : va_K D vwCl [(cI_4, .int), (cZ_4, .boolean), (cI_4, .int), (cZ_4, .boolean), (ny_c17, .long), (ny_c21, .double)] s := hK
  have hP : va_P D vwCl [(ny_o0, .inr (3, [.ref q1_4, .ref q2_4, .ref q3_4, .ref q4_4])), (q1_4, .inl (cI_4, 12, .inl (fun _ => 0))), (q2_4, .inl (cZ_4, 12, .inl (fun _ => 0))), (q3_4, .inr (2, [.ref q5_4, .int 0, .int 0, .int 0])), (q5_4, .inl (cI_4, 7, .inl (fun _ => 0))), (q4_4, .inr (2, [.ref q6_4, .int 0, .int 0, .int 0])), (q6_4, .inl (cI_4, 7, .inl (fun _ => 0))), (ny_o8, .inr (4, [.int 0, .ref m1_12, .ref m2_12, .ref m3_12, .ref m4_12, .int 0])), (m1_12, .inl (cI_4, 12, .inl (fun _ => 0))), (m2_12, .inl (cZ_4, 12, .inl (fun _ => 0))), (m3_12, .inl (cI_4, 16, .inl (fun _ => 0))), (m4_12, .inl (cI_4, 16, .inl (fun _ => 0))), (ny_a17, .inl (ny_c17, 1, .inr (.inl (fun _ => 0)))), (ny_a21, .inl (ny_c21, 1, .inr (.inr (.inr (.inl (fun _ => 0))))))] H := hP
  have hD : va_D A [(ny_o0, .inr (3, [.ref q1_4, .ref q2_4, .ref q3_4, .ref q4_4])), (q1_4, .inl (cI_4, 12, .inl (fun _ => 0))), (q2_4, .inl (cZ_4, 12, .inl (fun _ => 0))), (q3_4, .inr (2, [.ref q5_4, .int 0, .int 0, .int 0])), (q5_4, .inl (cI_4, 7, .inl (fun _ => 0))), (q4_4, .inr (2, [.ref q6_4, .int 0, .int 0, .int 0])), (q6_4, .inl (cI_4, 7, .inl (fun _ => 0))), (ny_o8, .inr (4, [.int 0, .ref m1_12, .ref m2_12, .ref m3_12, .ref m4_12, .int 0])), (m1_12, .inl (cI_4, 12, .inl (fun _ => 0))), (m2_12, .inl (cZ_4, 12, .inl (fun _ => 0))), (m3_12, .inl (cI_4, 16, .inl (fun _ => 0))), (m4_12, .inl (cI_4, 16, .inl (fun _ => 0))), (ny_a17, .inl (ny_c17, 1, .inr (.inl (fun _ => 0)))), (ny_a21, .inl (ny_c21, 1, .inr (.inr (.inr (.inl (fun _ => 0))))))] := hD
  refine lv_astore (lv' := [(4, .ref ny_a21), (3, .ref ny_a17), (2, .ref ny_o8), (1, .ref ny_o0), (0, .ref b)]) hx hb dL_law_23 hl (by decide) rfl (fun ls hl => ?_)
  refine lv_iconst (v := 0) hx hb dL_law_25 (by decide) ?_
  refine ny_ti (x2 := nI (5 * 0)) (rfl) ?_
  refine lv_istore (lv' := [(5, .int (nI (5 * 0))), (4, .ref ny_a21), (3, .ref ny_a17), (2, .ref ny_o8), (1, .ref ny_o0), (0, .ref b)]) hx hb dL_law_26 hl (by decide) rfl (fun ls hl => ?_)
  have hP9 := hP.sub (ws' := [(ny_o0, .inr (3, [.ref q1_4, .ref q2_4, .ref q3_4, .ref q4_4])), (q1_4, .inl (cI_4, 12, .inl (fun _ => 0))), (q2_4, .inl (cZ_4, 12, .inl (fun _ => 0))), (q3_4, .inr (2, [.ref q5_4, .int 0, .int 0, .int 0])), (q5_4, .inl (cI_4, 7, .inl (fun _ => 0))), (q4_4, .inr (2, [.ref q6_4, .int 0, .int 0, .int 0])), (q6_4, .inl (cI_4, 7, .inl (fun _ => 0))), (ny_o8, .inr (4, [.int 0, .ref m1_12, .ref m2_12, .ref m3_12, .ref m4_12, .int 0])), (m1_12, .inl (cI_4, 12, .inl (fun _ => 0))), (m2_12, .inl (cZ_4, 12, .inl (fun _ => 0))), (m3_12, .inl (cI_4, 16, .inl (fun _ => 0))), (m4_12, .inl (cI_4, 16, .inl (fun _ => 0))), (ny_a17, .inl (ny_c17, 1, .inr (.inl (fun _ => 0)))), (ny_a21, .inl (ny_c21, 1, .inr (.inr (.inr (.inl (fun _ => 0))))))]) [0, 1, 2, 3, 4, 5, 6, 7, 8, 9, 10, 11, 12, 13] rfl
  have hD9 := hD.sub (ws' := [(ny_o0, .inr (3, [.ref q1_4, .ref q2_4, .ref q3_4, .ref q4_4])), (q1_4, .inl (cI_4, 12, .inl (fun _ => 0))), (q2_4, .inl (cZ_4, 12, .inl (fun _ => 0))), (q3_4, .inr (2, [.ref q5_4, .int 0, .int 0, .int 0])), (q5_4, .inl (cI_4, 7, .inl (fun _ => 0))), (q4_4, .inr (2, [.ref q6_4, .int 0, .int 0, .int 0])), (q6_4, .inl (cI_4, 7, .inl (fun _ => 0))), (ny_o8, .inr (4, [.int 0, .ref m1_12, .ref m2_12, .ref m3_12, .ref m4_12, .int 0])), (m1_12, .inl (cI_4, 12, .inl (fun _ => 0))), (m2_12, .inl (cZ_4, 12, .inl (fun _ => 0))), (m3_12, .inl (cI_4, 16, .inl (fun _ => 0))), (m4_12, .inl (cI_4, 16, .inl (fun _ => 0))), (ny_a17, .inl (ny_c17, 1, .inr (.inl (fun _ => 0)))), (ny_a21, .inl (ny_c21, 1, .inr (.inr (.inr (.inl (fun _ => 0))))))]) [0, 1, 2, 3, 4, 5, 6, 7, 8, 9, 10, 11, 12, 13] (by decide) rfl
  have hK := hK.sub (tys' := [(cI_4, .int), (cZ_4, .boolean), (ny_c17, .long), (ny_c21, .double)]) [0, 1, 4, 5] rfl
  refine W.widen (k := 14 + 0) (n := 114 + 6 * 0) (Nat.le_of_ble_eq_true rfl) (Nat.le_of_ble_eq_true rfl) ?_
  exact lw_loop hx hb hml hown hts gl hE hK hX hbl hbA hA hr hlocks hA2 hL (L + 5) 0 (by omega) (by omega) (fun _ => 0) (fun _ => 0) (fun _ => 0) (fun _ => 0) (fun _ => 0) (fun _ => 0) (fun _ => 0) 0 0 0 0 0 0 0 ls H locs (fun _ _ => ny_R_0) (fun _ _ => Or.inl rfl) (by decide) (by decide) (lv_sub hl [0, 5, 4, 3, 2, 1] rfl) hP9 hD9 hS

/-! THE CLAIM OUT OF ONE WALK OF THE LAW'S BODY. Your part is whole_start (and what it stands on); all else here is the same for every law, but numbers. -/
def R_law : String := "SumFormsLaw"
def lw_P (b : Addr) (xs : List Int32) (args : Array Value) (s : State) : Prop := args = #[.ref b] ∧ s.IntsAt b xs ∧ xs.length ≤ 5120 ∧ (Jvm.Cond.and given_1 narrow_1).before args s = true
def lw_Q (_ : Array Value) (s : State) (o : Outcome) (t : State) : Prop := o = .returned (some (.int 1)) ∧ Framed s o t [] 600000 7302250
def lw_Z (below : List Frame) (a : Array Value) (s : State) : State → Prop := fun t => ∃ o, t.status = .running ∧ Ended t below o ∧ lw_Q a s o t
/-- the law's own end, with 1 on the stack, nothing written that was there before, its room as the claim has it -/
theorem lw_ret {p : Program} {l : Launch} {e : Env} {s : State} {m : MethodId} {below : List Frame} {meth : Method} {c : Code} {b : Nat} (hx : p.tables.exec = Jvm.exec) (hb : c.code = code) (hr : meth.sig.returnType = ret) (hlocks : meth.locks = false) {pc : Nat} {H : Heap} {ls : Array Slot} (hdg : decode code pc = .ok (.ireturn, 1)) : W p l e room_1 s m #[Value.ref b] below meth c H [] 600000 7302250 (lw_Z below #[Value.ref b] s) (F0 m pc ls [.int 1]) := by
  intro T hT X
  obtain ⟨fs, hret, hrun, hended, hW, hframe⟩ := X.leave (v := some (.int 1)) (hlocks := hlocks) (fun h => by rw [hr] at h; cases h)
  have hmeth' : T.vm.method? m = some meth := X.method'
  refine ⟨T.setFrames fs, ?_, .returned (some (.int 1)), hrun, hended, rfl, ⟨_, rfl⟩, hW, hframe⟩
  jvm_step X.here [X.here.top, hx, hb, hdg, hmeth', hr, ret, narrow_b1]
  (try refine ⟨rfl, ?_⟩); (try refine ⟨rfl, ?_⟩)
  first | (intro acts; rw [hret _ acts rfl rfl rfl]) | rw [hret _ _ rfl rfl rfl]
  exact Steps.refl _
/-- what holds at the law's entry: the machine, the code, the tables' words (any of lw_tbl by 'hts w (by decide +kernel)'), the script of L ints xs at the cell b, what the Statement gives of the start (any of its parts by flat_of_before) -/
def lw_At (p : Program) (s : State) (m : MethodId) (meth : Method) (c : Code) (b L : Nat) (xs : Nat → Int32) : Prop :=
  p.tables.exec = Jvm.exec ∧ c.code = code ∧ meth.sig.returnType = ret ∧ c.maxLocals = 4 ∧ s.vm.findClass R_law = some m.cls ∧ (∀ w ∈ lw_tbl, w.before #[Value.ref b] s = true) ∧ va_X b L xs s s.heap ∧ b < s.heap.size ∧ meth.locks = false ∧ (Jvm.Cond.and given_1 narrow_1).before #[Value.ref b] s = true
/-! ===== the law: its start ===== -/
theorem arr_of {s : State} {args : Array Value} {ty : FieldType} (h : (Cond.arrayClass ty).before args s = true) : ∃ cA, ArrOfT s cA ty ∧ s.vm.findClass ("[" ++ ty.toString) = some cA := by
  obtain ⟨cA, kA, comp, h1, h2, h3⟩ := Cond.arrayClass_spec h
  exact ⟨cA, fun n z => ⟨fun k h => (by cases h), kA, h2, comp, h3⟩, h1⟩
theorem arr_ofq {s : State} {args : Array Value} {C : String} (h : (Cond.arrayOver (.object C)).before args s = true) : ∃ cA, ArrOfT s cA (.object C) ∧ va_RA s cA (.object C) := by
  obtain ⟨comp, c, k, h1, -, h3, h4, h5⟩ := Cond.arrayOver_spec h
  exact ⟨c, fun n z => ⟨fun k h => (by cases h), k, h3, comp, h4⟩, k, comp, h3, h4, h1, h5⟩
theorem st_tab {args : Array Value} {s : State} {C n : String} {N : Nat} {f : Nat → Int32} (hN : N < 2 ^ 31) (hl : (Cond.laysStatic C n "[I").before args s = true) (hini : (Cond.initialized C).before args s = true) (har : (Cond.arrayOf (.static C n "[I") .int).before args s = true) (hle : (Cond.eq (.length (.static C n "[I")) (.int (Int32.ofNat N))).before args s = true) (hel : ∀ j, j < N → (Cond.eq (.elem (.static C n "[I") (.int (Int32.ofNat j))) (.int (f j))).before args s = true) : ∃ t, va_Z C n "[I" (.ref t) (fun q => s.heap.size ≤ q) s s.heap ∧ va_T .int t N (fun j => .int (f j)) (fun q => s.heap.size ≤ q) s s.heap := by
  obtain ⟨t, ht, hT⟩ := va_Tof (f := fun j => .int (f j)) (A := fun q => s.heap.size ≤ q) hN har (va_eqt hle) (fun j hj => va_eqt (hel j hj)) (fun a h => Nat.not_le.mpr h)
  exact ⟨t, va_Zref hl hini ht (fun a h => Nat.not_le.mpr h), hT⟩
theorem tb_over : Cond.arrayOver (.object "SumForms$Form") ∈ lw_tbl := List.mem_append_right _ (List.mem_of_getElem? (i := 17) (by decide +kernel))
theorem nm_0 : Cond.methodLinkNest RX5 28 yX3_init "SumForms" ∈ lw_tbl := List.mem_append_right _ (List.mem_of_getElem? (i := 20) (by decide +kernel))
theorem nm_1 : Cond.methodLinkNest RX5 33 yX1_init "SumForms" ∈ lw_tbl := List.mem_append_right _ (List.mem_of_getElem? (i := 37) (by decide +kernel))
theorem nm_2 : Cond.methodLinkNest RX1 11 yX0_init "SumForms" ∈ lw_tbl := List.mem_append_right _ (List.mem_of_getElem? (i := 43) (by decide +kernel))
theorem nm_3 : Cond.methodLinkNest RX1 20 yX4_init "SumForms" ∈ lw_tbl := List.mem_append_right _ (List.mem_of_getElem? (i := 68) (by decide +kernel))
theorem nm_4 : Cond.methodLinkNest RX5 38 yX1_become "SumForms" ∈ lw_tbl := List.mem_append_right _ (List.mem_of_getElem? (i := 138) (by decide +kernel))
theorem nm_5 : Cond.methodLinkNest RX5 56 yX1_behindOctet "SumForms" ∈ lw_tbl := List.mem_append_right _ (List.mem_of_getElem? (i := 175) (by decide +kernel))
theorem nm_6 : Cond.methodLinkNest RX1 50 yX2_timesX "SumForms" ∈ lw_tbl := List.mem_append_right _ (List.mem_of_getElem? (i := 179) (by decide +kernel))
theorem nm_7 : Cond.methodLinkNest RX5 60 yX1_sumOf "SumForms" ∈ lw_tbl := List.mem_append_right _ (List.mem_of_getElem? (i := 182) (by decide +kernel))
theorem nm_8 : Cond.methodLinkNest RX5 72 yX1_registerOf "SumForms" ∈ lw_tbl := List.mem_append_right _ (List.mem_of_getElem? (i := 201) (by decide +kernel))
theorem nm_9 : Cond.methodLinkNest RX5 75 yX1_movedByOctets "SumForms" ∈ lw_tbl := List.mem_append_right _ (List.mem_of_getElem? (i := 205) (by decide +kernel))
theorem nm_10 : Cond.methodLinkNest RX1 56 yX2_product "SumForms" ∈ lw_tbl := List.mem_append_right _ (List.mem_of_getElem? (i := 209) (by decide +kernel))
theorem nm_11 : Cond.methodLinkNest RX5 82 yX1_octetsBetween "SumForms" ∈ lw_tbl := List.mem_append_right _ (List.mem_of_getElem? (i := 228) (by decide +kernel))
theorem nm_12 : Cond.methodLinkNest RX5 92 yX0_findFor "SumForms" ∈ lw_tbl := List.mem_append_right _ (List.mem_of_getElem? (i := 245) (by decide +kernel))
theorem nm_13 : Cond.methodLinkNest RX0 34 yX2_degree "SumForms" ∈ lw_tbl := List.mem_append_right _ (List.mem_of_getElem? (i := 250) (by decide +kernel))
theorem nm_14 : Cond.methodLinkNest RX0 38 yX2_product "SumForms" ∈ lw_tbl := List.mem_append_right _ (List.mem_of_getElem? (i := 251) (by decide +kernel))
theorem nm_15 : Cond.methodLinkNest RX0 42 yX2_greatestCommon "SumForms" ∈ lw_tbl := List.mem_append_right _ (List.mem_of_getElem? (i := 252) (by decide +kernel))
theorem nm_16 : Cond.methodLinkNest RX0 65 yX2_timesX "SumForms" ∈ lw_tbl := List.mem_append_right _ (List.mem_of_getElem? (i := 266) (by decide +kernel))
theorem nm_17 : Cond.methodLinkNest RX0 69 yX2_trace "SumForms" ∈ lw_tbl := List.mem_append_right _ (List.mem_of_getElem? (i := 267) (by decide +kernel))
theorem nm_18 : Cond.methodLinkNest RX0 62 yX2_remainder "SumForms" ∈ lw_tbl := List.mem_append_right _ (List.mem_of_getElem? (i := 275) (by decide +kernel))
theorem nm_19 : Cond.methodLinkNest RX0 77 yX2_quotient "SumForms" ∈ lw_tbl := List.mem_append_right _ (List.mem_of_getElem? (i := 276) (by decide +kernel))
theorem nm_20 : Cond.methodLinkNest RX5 108 yX0_foundPeriod "SumForms" ∈ lw_tbl := List.mem_append_right _ (List.mem_of_getElem? (i := 295) (by decide +kernel))
theorem nm_21 : Cond.methodLinkNest RX0 93 yX2_powerOfX "SumForms" ∈ lw_tbl := List.mem_append_right _ (List.mem_of_getElem? (i := 307) (by decide +kernel))
theorem nm_22 : Cond.methodLinkNest RX5 116 yX4_findFor "SumForms" ∈ lw_tbl := List.mem_append_right _ (List.mem_of_getElem? (i := 317) (by decide +kernel))
theorem nm_23 : Cond.methodLinkNest RX4 25 yX2_degree "SumForms" ∈ lw_tbl := List.mem_append_right _ (List.mem_of_getElem? (i := 321) (by decide +kernel))
theorem nm_24 : Cond.methodLinkNest RX4 31 yX3_clear "SumForms" ∈ lw_tbl := List.mem_append_right _ (List.mem_of_getElem? (i := 322) (by decide +kernel))
theorem nm_25 : Cond.methodLinkNest RX4 36 yX3_add "SumForms" ∈ lw_tbl := List.mem_append_right _ (List.mem_of_getElem? (i := 326) (by decide +kernel))
theorem nm_26 : Cond.methodLinkNest RX4 40 yX2_timesX "SumForms" ∈ lw_tbl := List.mem_append_right _ (List.mem_of_getElem? (i := 335) (by decide +kernel))
theorem nm_27 : Cond.methodLinkNest RX4 48 yX3_has "SumForms" ∈ lw_tbl := List.mem_append_right _ (List.mem_of_getElem? (i := 340) (by decide +kernel))
theorem nm_28 : Cond.methodLinkNest RX4 52 yX3_hasTwo "SumForms" ∈ lw_tbl := List.mem_append_right _ (List.mem_of_getElem? (i := 344) (by decide +kernel))
theorem nm_29 : Cond.methodLinkNest RX5 121 yX4_fewest "SumForms" ∈ lw_tbl := List.mem_append_right _ (List.mem_of_getElem? (i := 349) (by decide +kernel))
theorem nf_0 : Cond.fieldLinkNest RX5 101 "SumForms$Factors" "polynomials" "[J" "SumForms" ∈ lw_tbl := List.mem_append_right _ (List.mem_of_getElem? (i := 48) (by decide +kernel))
theorem nf_1 : Cond.fieldLinkNest RX5 105 "SumForms$Factors" "times" "[I" "SumForms" ∈ lw_tbl := List.mem_append_right _ (List.mem_of_getElem? (i := 50) (by decide +kernel))
theorem nf_2 : Cond.fieldLinkNest RX5 98 "SumForms$Factors" "size" "I" "SumForms" ∈ lw_tbl := List.mem_append_right _ (List.mem_of_getElem? (i := 52) (by decide +kernel))
theorem nf_3 : Cond.fieldLinkNest RX5 79 "SumForms$Form" "width" "I" "SumForms" ∈ lw_tbl := List.mem_append_right _ (List.mem_of_getElem? (i := 86) (by decide +kernel))
theorem nf_4 : Cond.fieldLinkNest RX5 89 "SumForms$Form" "generator" "J" "SumForms" ∈ lw_tbl := List.mem_append_right _ (List.mem_of_getElem? (i := 88) (by decide +kernel))
theorem nf_5 : Cond.fieldLinkNest RX5 52 "SumForms$Form" "start" "J" "SumForms" ∈ lw_tbl := List.mem_append_right _ (List.mem_of_getElem? (i := 90) (by decide +kernel))
theorem nf_6 : Cond.fieldLinkNest RX5 85 "SumForms$Form" "factoring" "LSumForms$Factors;" "SumForms" ∈ lw_tbl := List.mem_append_right _ (List.mem_of_getElem? (i := 95) (by decide +kernel))
theorem nf_7 : Cond.fieldLinkNest RX5 112 "SumForms$Form" "unseen" "LSumForms$Unseen;" "SumForms" ∈ lw_tbl := List.mem_append_right _ (List.mem_of_getElem? (i := 97) (by decide +kernel))
theorem nestM_in : ∀ q ∈ nestM, Cond.methodLinkNest q.1 q.2.1 q.2.2 "SumForms" ∈ lw_tbl := List.forall_mem_cons.mpr ⟨nm_0, List.forall_mem_cons.mpr ⟨nm_1, List.forall_mem_cons.mpr ⟨nm_2, List.forall_mem_cons.mpr ⟨nm_3, List.forall_mem_cons.mpr ⟨nm_4, List.forall_mem_cons.mpr ⟨nm_5, List.forall_mem_cons.mpr ⟨nm_6, List.forall_mem_cons.mpr ⟨nm_7, List.forall_mem_cons.mpr ⟨nm_8, List.forall_mem_cons.mpr ⟨nm_9, List.forall_mem_cons.mpr ⟨nm_10, List.forall_mem_cons.mpr ⟨nm_11, List.forall_mem_cons.mpr ⟨nm_12, List.forall_mem_cons.mpr ⟨nm_13, List.forall_mem_cons.mpr ⟨nm_14, List.forall_mem_cons.mpr ⟨nm_15, List.forall_mem_cons.mpr ⟨nm_16, List.forall_mem_cons.mpr ⟨nm_17, List.forall_mem_cons.mpr ⟨nm_18, List.forall_mem_cons.mpr ⟨nm_19, List.forall_mem_cons.mpr ⟨nm_20, List.forall_mem_cons.mpr ⟨nm_21, List.forall_mem_cons.mpr ⟨nm_22, List.forall_mem_cons.mpr ⟨nm_23, List.forall_mem_cons.mpr ⟨nm_24, List.forall_mem_cons.mpr ⟨nm_25, List.forall_mem_cons.mpr ⟨nm_26, List.forall_mem_cons.mpr ⟨nm_27, List.forall_mem_cons.mpr ⟨nm_28, List.forall_mem_cons.mpr ⟨nm_29, fun _ h => absurd h List.not_mem_nil⟩⟩⟩⟩⟩⟩⟩⟩⟩⟩⟩⟩⟩⟩⟩⟩⟩⟩⟩⟩⟩⟩⟩⟩⟩⟩⟩⟩⟩⟩
theorem nestF_in : ∀ q ∈ nestF, Cond.fieldLinkNest q.1 q.2.1 q.2.2.1 q.2.2.2.1 q.2.2.2.2 "SumForms" ∈ lw_tbl := List.forall_mem_cons.mpr ⟨nf_0, List.forall_mem_cons.mpr ⟨nf_1, List.forall_mem_cons.mpr ⟨nf_2, List.forall_mem_cons.mpr ⟨nf_3, List.forall_mem_cons.mpr ⟨nf_4, List.forall_mem_cons.mpr ⟨nf_5, List.forall_mem_cons.mpr ⟨nf_6, List.forall_mem_cons.mpr ⟨nf_7, fun _ h => absurd h List.not_mem_nil⟩⟩⟩⟩⟩⟩⟩⟩
theorem nw_of {s : State} {args : Array Value} (hts : ∀ w ∈ lw_tbl, w.before args s = true) : NW s := ⟨fun q hq => va_Nw.of rfl (hts _ (nestM_in q hq)), fun q hq => va_Nw.of rfl (hts _ (nestF_in q hq))⟩
theorem mI_X0 : Cond.instantiable RX0 5 ∈ wsL_law := by decide +kernel
theorem mI_X1 : Cond.instantiable RX1 8 ∈ wsL_law := by decide +kernel
theorem mI_X3 : Cond.instantiable RX3 3 ∈ wsL_law := by decide +kernel
theorem mI_X4 : Cond.instantiable RX4 4 ∈ wsL_law := by decide +kernel
theorem mI_X5 : Cond.instantiable RX5 5 ∈ wsL_law := by decide +kernel
theorem mI_X6 : Cond.instantiable RX6 16 ∈ wsL_law := by decide +kernel
theorem mA_int : Cond.arrayClass .int ∈ wsL_law := by decide +kernel
theorem mA_long : Cond.arrayClass .long ∈ wsL_law := by decide +kernel
theorem mA_boolean : Cond.arrayClass .boolean ∈ wsL_law := by decide +kernel
theorem sL_PR : Cond.laysStatic "SumForms$Factors" "PRIMES" "[I" ∈ lw_tbl := List.mem_append_right _ (List.mem_of_getElem? (i := 303) (by decide +kernel))
theorem sI_PR : Cond.initialized "SumForms$Factors" ∈ lw_tbl := List.mem_append_right _ (List.mem_of_getElem? (i := 4) (by decide +kernel))
theorem sL_AM : Cond.laysStatic "SumForms" "ADDING_MODULUS" "[I" ∈ lw_tbl := List.mem_append_right _ (List.mem_of_getElem? (i := 361) (by decide +kernel))
theorem sI_AM : Cond.initialized "SumForms" ∈ lw_tbl := List.mem_append_right _ (List.mem_of_getElem? (i := 1) (by decide +kernel))
theorem sL_AH : Cond.laysStatic "SumForms" "ADDING_HALF_BITS" "[I" ∈ lw_tbl := List.mem_append_right _ (List.mem_of_getElem? (i := 368) (by decide +kernel))
theorem sI_AH : Cond.initialized "SumForms" ∈ lw_tbl := List.mem_append_right _ (List.mem_of_getElem? (i := 1) (by decide +kernel))
theorem sL_AF : Cond.laysStatic "SumForms" "ADDING_FIRST" "[I" ∈ lw_tbl := List.mem_append_right _ (List.mem_of_getElem? (i := 363) (by decide +kernel))
theorem sI_AF : Cond.initialized "SumForms" ∈ lw_tbl := List.mem_append_right _ (List.mem_of_getElem? (i := 1) (by decide +kernel))
set_option maxRecDepth 100000 in
theorem st_tabs {s : State} {args : Array Value} (hts : ∀ w ∈ lw_tbl, w.before args s = true) (hgv : (Jvm.Cond.and given_1 narrow_1).before args s = true) : ∃ tPR tAM tAH tAF : Nat, ST0 tPR (fun q => s.heap.size ≤ q) s s.heap ∧ ST5 tAM tAH tAF (fun q => s.heap.size ≤ q) s s.heap := by
  have hs := flat_of_before _ hgv
  have ePR : ∀ j, j < 36 → (Cond.eq (.elem (.static "SumForms$Factors" "PRIMES" "[I") (.int (Int32.ofNat j))) (.int (kPR j))).before args s = true := by
    intro j hj
    apply hs
    revert j
    decide +kernel
  obtain ⟨tPR, zPR, yPR⟩ := st_tab (N := 36) (f := kPR) (by decide) (hts _ sL_PR) (hts _ sI_PR) (hs _ (by decide +kernel)) (hs _ (by decide +kernel)) ePR
  have eAM : ∀ j, j < 2 → (Cond.eq (.elem (.static "SumForms" "ADDING_MODULUS" "[I") (.int (Int32.ofNat j))) (.int (kAM j))).before args s = true := by
    intro j hj
    apply hs
    revert j
    decide +kernel
  obtain ⟨tAM, zAM, yAM⟩ := st_tab (N := 2) (f := kAM) (by decide) (hts _ sL_AM) (hts _ sI_AM) (hs _ (by decide +kernel)) (hs _ (by decide +kernel)) eAM
  have eAH : ∀ j, j < 2 → (Cond.eq (.elem (.static "SumForms" "ADDING_HALF_BITS" "[I") (.int (Int32.ofNat j))) (.int (kAH j))).before args s = true := by
    intro j hj
    apply hs
    revert j
    decide +kernel
  obtain ⟨tAH, zAH, yAH⟩ := st_tab (N := 2) (f := kAH) (by decide) (hts _ sL_AH) (hts _ sI_AH) (hs _ (by decide +kernel)) (hs _ (by decide +kernel)) eAH
  have eAF : ∀ j, j < 2 → (Cond.eq (.elem (.static "SumForms" "ADDING_FIRST" "[I") (.int (Int32.ofNat j))) (.int (kAF j))).before args s = true := by
    intro j hj
    apply hs
    revert j
    decide +kernel
  obtain ⟨tAF, zAF, yAF⟩ := st_tab (N := 2) (f := kAF) (by decide) (hts _ sL_AF) (hts _ sI_AF) (hs _ (by decide +kernel)) (hs _ (by decide +kernel)) eAF
  exact ⟨tPR, tAM, tAH, tAF, ⟨zPR, yPR⟩, ⟨zAM, yAM⟩, ⟨zAH, yAH⟩, ⟨zAF, yAF⟩⟩
set_option maxHeartbeats 2000000 in
set_option maxRecDepth 100000 in
theorem st_base {p : Program} {s : State} {m : MethodId} {meth : Method} {c : Code} {b L : Nat} {xs : Nat → Int32} (C0 : lw_At p s m meth c b L xs) : ∃ (D : va_G) (cy : Nat → ClassId) (tPR tAM tAH tAF : Nat), LB p m c s b L xs D cy (fun q => s.heap.size ≤ q) tPR tAM tAH tAF ∧ va_AO "SumForms$Form" s := by
  obtain ⟨hx, hb, hr, hml, hown, hts0, hX, hbl, hlocks, hgv⟩ := C0
  have hts : ∀ w ∈ wsL_law, w.before #[Value.ref b] s = true := fun w h => hts0 w (wsL_law_in w h)
  have hO : va_AO "SumForms$Form" s := va_AO.of (hts0 _ tb_over)
  obtain ⟨c0, i0, k0⟩ := u_known (C := RX0) (T := TX0) (N := 5) (n := 5) hts (fun w h => List.mem_append_left _ (List.mem_append_left _ (List.mem_append_right _ h))) (hts (.instantiable RX0 5) mI_X0)
  obtain ⟨c1, i1, k1⟩ := u_known (C := RX1) (T := TX1) (N := 8) (n := 8) hts (fun w h => List.mem_append_left _ (List.mem_append_left _ (List.mem_append_left _ (List.mem_append_right _ h)))) (hts (.instantiable RX1 8) mI_X1)
  obtain ⟨c2, i2, k2⟩ := u_known (C := RX3) (T := TX3) (N := 3) (n := 3) hts (fun w h => List.mem_append_left _ (List.mem_append_left _ (List.mem_append_left _ (List.mem_append_left _ (List.mem_append_right _ h))))) (hts (.instantiable RX3 3) mI_X3)
  obtain ⟨c3, i3, k3⟩ := u_known (C := RX4) (T := TX4) (N := 4) (n := 4) hts (fun w h => List.mem_append_left _ (List.mem_append_right _ h)) (hts (.instantiable RX4 4) mI_X4)
  obtain ⟨c4, i4, k4⟩ := u_known (C := RX5) (T := TX5) (N := 5) (n := 5) hts (fun w h => List.mem_append_left _ (List.mem_append_left _ (List.mem_append_left _ (List.mem_append_left _ (List.mem_append_left _ (List.mem_append_left _ (List.mem_append_right _ h))))))) (hts (.instantiable RX5 5) mI_X5)
  obtain ⟨c5, i5, k5⟩ := u_known (C := RX6) (T := TX6) (N := 16) (n := 16) hts (fun w h => List.mem_append_left _ (List.mem_append_left _ (List.mem_append_left _ (List.mem_append_left _ (List.mem_append_left _ (List.mem_append_right _ h)))))) (hts (.instantiable RX6 16) mI_X6)
  obtain ⟨a0, ha0, hb0⟩ := arr_of (hts _ mA_int)
  obtain ⟨a1, ha1, hb1⟩ := arr_of (hts _ mA_long)
  obtain ⟨a2, ha2, hb2⟩ := arr_of (hts _ mA_boolean)
  obtain ⟨a3, ha3, hb3⟩ := arr_ofq (hts0 _ tb_over)
  obtain ⟨tPR, tAM, tAH, tAF, hZ0, hZ5⟩ := st_tabs hts0 hgv
  refine ⟨(fun k => [c0, c1, c2, c3, c4, c5].getD k c0, fun k => [i0, i1, i2, i3, i4, i5].getD k i0), fun k => [a0, a1, a2, a3].getD k a0, tPR, tAM, tAH, tAF, ⟨hx, hb, hml, hown, hts, ⟨⟨fun k q hq => ?_, fun k q hq => ?_⟩, nw_of hts0⟩, hX, hbl, Nat.not_le.mpr hbl, fun _ h => h, hZ0, hZ5⟩, hO⟩
  · match k, hq with
    | 0, hq => cases hq; exact k0
    | 1, hq => cases hq; exact k1
    | 2, hq => cases hq; exact k2
    | 3, hq => cases hq; exact k3
    | 4, hq => cases hq; exact k4
    | 5, hq => cases hq; exact k5
    | k + 6, hq => cases hq
  · match k, hq with
    | 0, hq => cases hq; exact ⟨ha0, hb0⟩
    | 1, hq => cases hq; exact ⟨ha1, hb1⟩
    | 2, hq => cases hq; exact ⟨ha2, hb2⟩
    | 3, hq => cases hq; exact ⟨ha3, hb3⟩
    | k + 4, hq => cases hq
theorem st_end {p : Program} {l : Launch} {e : Env} {s : State} {m : MethodId} {below : List Frame} {meth : Method} {c : Code} {b L : Nat} {xs : Nat → Int32} (C0 : lw_At p s m meth c b L xs) : ∀ (H : Heap) (locs : List Loc) (ls : Array Slot), va_S (fun q => s.heap.size ≤ q) s.heap H locs → GL p l e s m b below meth c H locs (F0 m 1302 ls []) := by
  obtain ⟨hx, hb, hr, hml, hown, hts0, hX, hbl, hlocks, hgv⟩ := C0
  intro H locs ls hS
  refine va_forget (fun q hq => hS.2.2 q hq) ?_
  refine lv_iconst (v := (1 : Int32)) hx hb dL_law_1302 (by decide) ?_
  exact lw_ret hx hb hr hlocks dL_law_1303

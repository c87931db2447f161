/-! SumFormsModel.octet(I)I -/
abbrev rX6_octet : Room := { frames := 0, cells := 0, slots := 0, locals := 0 }
theorem mX6_octet_0 : Cond.fieldLink RX6 63 "SumFormsModel" "size" "I" ∈ wsX6_octet := by decide +kernel
theorem mX6_octet_1 : Cond.fieldLink RX6 30 "SumFormsModel" "text" "[I" ∈ wsX6_octet := by decide +kernel
theorem inX6_octet_X6 : ∀ w ∈ u_ws RX6 TX6 16, w ∈ wsX6_octet := by decide +kernel
abbrev GX6_octet (p : Program) (l : Launch) (e : Env) (s : State) (m : MethodId) (args : Array Value) (below : List Frame) (meth : Method) (c : Code) (r0 : Int32) (fr : JFrame) : Prop := W p l e (headSpec wsX6_octet rX6_octet).room s m args below meth c s.heap [] 0 0 (MQ below (vp_Si (fun r => r = r0)) args s 0 0 (fun _ => False)) fr
def fX6_octet (N : Nat) (mN : Int32) (mT : Nat → Int32) (x1 : Int32) : Option (Int32) := (if x1 < 0 then (some (-1 : Int32)) else (if x1 < mN then (if OOB x1 600 then none else (some (mT x1.toNatClampNeg))) else (some (-1 : Int32))))
set_option maxHeartbeats 4000000 in
set_option maxRecDepth 100000 in
theorem ctX6_octet (l : Launch) (D : va_G) (cy : Nat → ClassId) (N : Nat) (hmo hmW hmP hmS hmE hmI hmO hmT hmK hmF hmH hmM hmD hmR hmB : Nat) (mC : Int32) (mN : Int32) (mT : Nat → Int32) (x1 : Int32) (r0 : Int32) (hf : fX6_octet N mN mT x1 = some r0) : Met l yX6_octet wsX6_octet rX6_octet (va_Pc [.ref hmo, .int x1] (Rd D cy [(hmo, .inr (5, [.int mC, .ref hmW, .ref hmP, .ref hmS, .ref hmE, .ref hmI, .ref hmO, .ref hmT, .int mN, .ref hmK, .ref hmF, .ref hmH, .ref hmM, .ref hmD, .ref hmR, .ref hmB])), (hmT, .inl (cy 0, 600, .inl mT))])) (vp_Si (fun r => r = r0)) 0 0 (fun _ => False) := by
  refine Met.ofW (cc := cX6_octet) (maxL := 2) (ret := (some .int)) (by decide) rfl ?_
  intro p e s m args below meth c s₁ B hml hv
  obtain ⟨rfl, hP, hB⟩ := hv
  have hx := B.exec
  have hb := B.bytes
  have hr := B.returns
  have hts := atoms_spec (ws := wsX6_octet) B.pre
  have hown : s.vm.findClass RX6 = some m.cls := findClass_of_methodNamed B.named
  have hlocks := B.notSynchronized
  have hK := hB.1
  have hN := hB.2
  have hl := lv_entry ([.ref hmo, .int x1]) (n := 2) (Nat.le_of_ble_eq_true rfl)
  rw [lg_entry_eq]
  generalize (lg_sl ([.ref hmo, .int x1]) ++ List.replicate (2 - (lg_sl ([.ref hmo, .int x1])).length) Slot.unset).toArray = ls at hl ⊢
  have hl : lv_has ls 2 [(0, .ref hmo), (1, .int x1)] := hl
  have E0 : En p m c cX6_octet 2 s ([.ref hmo, .int x1] : List Value).toArray wsX6_octet RX6 meth (some .int) D cy := ⟨⟨hx, hb, hml, hown, hts⟩, hr, hlocks, hB⟩
  unfold fX6_octet at hf
  refine lv_iload_n hx hb dX6_octet_0 rfl (lv_at hl 1 rfl) ?_
  refine lv_if_lt (tgt := 12) hx hb dX6_octet_1 (by decide) (fun c_1 => ?_) (fun c_1 => ?_)
  · have hf := ite_t hf c_1
    refine lv_iconst (v := (-1 : Int32)) hx hb dX6_octet_12 (by decide) ?_
    refine lv_goto (tgt := 22) hx hb dX6_octet_13 (by decide) ?_
    exact W.iret (v := (-1 : Int32)) hx hb hr (fun t ht hW => ⟨_, rfl, Option.some.inj hf, ht⟩) (fun _ h => absurd h List.not_mem_nil) dX6_octet_22
  · have hf := ite_f hf c_1
    refine lv_iload_n hx hb dX6_octet_4 rfl (lv_at hl 1 rfl) ?_
    refine lv_aload_n hx hb dX6_octet_5 rfl (lv_at hl 0 rfl) ?_
    refine va_get (D := D) (ci := 5) (v := .int mN) (C := RX6) (T := TX6) (N := 16) hx hb hts inX6_octet_X6 hown hK hP 0 rfl rfl 8 (by decide) (hts _ mX6_octet_0) (fun _ h9 => h9) rfl dX6_octet_6 ?_
    refine lv_icmp_lt (tgt := 16) hx hb dX6_octet_9 (by decide) (fun c_2 => ?_) (fun c_2 => ?_)
    · have hf := ite_t hf c_2
      refine lv_aload_n hx hb dX6_octet_16 rfl (lv_at hl 0 rfl) ?_
      refine va_get (D := D) (ci := 5) (v := .ref hmT) (C := RX6) (T := TX6) (N := 16) hx hb hts inX6_octet_X6 hown hK hP 0 rfl rfl 7 (by decide) (hts _ mX6_octet_1) (fun _ h9 => h9) rfl dX6_octet_17 ?_
      refine lv_iload_n hx hb dX6_octet_20 rfl (lv_at hl 1 rfl) ?_
      obtain ⟨b_3, hf⟩ := ite_n hf
      refine va_iald hx hb hK hP 1 0 rfl rfl b_3 dX6_octet_21 ?_
      exact W.iret (v := (mT x1.toNatClampNeg)) hx hb hr (fun t ht hW => ⟨_, rfl, Option.some.inj hf, ht⟩) (fun _ h => absurd h List.not_mem_nil) dX6_octet_22
    · have hf := ite_f hf c_2
      refine lv_iconst (v := (-1 : Int32)) hx hb dX6_octet_12 (by decide) ?_
      refine lv_goto (tgt := 22) hx hb dX6_octet_13 (by decide) ?_
      exact W.iret (v := (-1 : Int32)) hx hb hr (fun t ht hW => ⟨_, rfl, Option.some.inj hf, ht⟩) (fun _ h => absurd h List.not_mem_nil) dX6_octet_22
/-! SumFormsModel.order(I)J -/
abbrev rX6_order : Room := { frames := 5, cells := 0, slots := 0, locals := 141 }
theorem mX6_order_0 : Cond.fieldLink RX6 45 "SumFormsModel" "orders" "[J" ∈ wsX6_order := by decide +kernel
theorem mX6_order_1 : Cond.constantLong RX6 91 (-1) ∈ wsX6_order := by decide +kernel
theorem inX6_order_X6 : ∀ w ∈ u_ws RX6 TX6 16, w ∈ wsX6_order := by decide +kernel
abbrev GX6_order (p : Program) (l : Launch) (e : Env) (s : State) (m : MethodId) (args : Array Value) (below : List Frame) (meth : Method) (c : Code) (D : va_G) (cy : Nat → ClassId) (A : Nat → Prop) (hmo : Nat) (hmW : Nat) (hmP : Nat) (hmS : Nat) (hmE : Nat) (hmI : Nat) (hmO : Nat) (hmT : Nat) (hmK : Nat) (hmF : Nat) (hmH : Nat) (hmM : Nat) (hmD : Nat) (hmR : Nat) (hmB : Nat) (mC : Int32) (mN : Int32) (mW : Nat → Int32) (mP : Nat → Int64) (r0 : Int64 × (Nat → Int32) × (Nat → Int64) × (Nat → Int32) × (Nat → Int32) × (Nat → Int64)) (H : Heap) (locs : List Loc) (fr : JFrame) : Prop := W p l e (headSpec wsX6_order rX6_order).room s m args below meth c H locs 0 0 (MQ below (Qwl D A [(hmo, .inr (5, [.int mC, .ref hmW, .ref hmP, .ref hmS, .ref hmE, .ref hmI, .ref hmO, .ref hmT, .int mN, .ref hmK, .ref hmF, .ref hmH, .ref hmM, .ref hmD, .ref hmR, .ref hmB])), (hmW, .inl (cy 0, 8, .inl mW)), (hmP, .inl (cy 1, 8, .inr (.inl mP))), (hmK, .inl (cy 2, 8, .inl r0.2.1)), (hmF, .inl (cy 1, 264, .inr (.inl r0.2.2.1))), (hmH, .inl (cy 0, 264, .inl r0.2.2.2.1)), (hmM, .inl (cy 0, 8, .inl r0.2.2.2.2.1)), (hmD, .inl (cy 1, 8, .inr (.inl r0.2.2.2.2.2)))] r0.1) args s 0 0 A) fr
def fX6_order (N : Nat) (mC : Int32) (mW : Nat → Int32) (mP : Nat → Int64) (mK : Nat → Int32) (mF : Nat → Int64) (mH : Nat → Int32) (mM : Nat → Int32) (mD : Nat → Int64) (x1 : Int32) : Option (Int64 × (Nat → Int32) × (Nat → Int64) × (Nat → Int32) × (Nat → Int32) × (Nat → Int64)) := ((fX6_isForm N mC x1).bind (fun r_1 => (if r_1 = 0 then (some ((-1 : Int64), mK, mF, mH, mM, mD)) else ((fX6_know N mW mP mK mF mH mM mD x1).bind (fun r_4 => (if OOB x1 8 then none else (some ((r_4.2.2.2.2 x1.toNatClampNeg), r_4.1, r_4.2.1, r_4.2.2.1, r_4.2.2.2.1, r_4.2.2.2.2))))))))
set_option maxHeartbeats 4000000 in
set_option maxRecDepth 100000 in
theorem ctX6_order (l : Launch) (D : va_G) (cy : Nat → ClassId) (N : Nat) (hmo hmW hmP hmS hmE hmI hmO hmT hmK hmF hmH hmM hmD hmR hmB : Nat) (sz : Nat) (mC : Int32) (mN : Int32) (mW : Nat → Int32) (mP : Nat → Int64) (mK : Nat → Int32) (mF : Nat → Int64) (mH : Nat → Int32) (mM : Nat → Int32) (mD : Nat → Int64) (x1 : Int32) (r0 : Int64 × (Nat → Int32) × (Nat → Int64) × (Nat → Int32) × (Nat → Int32) × (Nat → Int64)) (hf : fX6_order N mC mW mP mK mF mH mM mD x1 = some r0) : Met l yX6_order wsX6_order rX6_order (va_Pc [.ref hmo, .int x1] (Wr D cy [(hmo, .inr (5, [.int mC, .ref hmW, .ref hmP, .ref hmS, .ref hmE, .ref hmI, .ref hmO, .ref hmT, .int mN, .ref hmK, .ref hmF, .ref hmH, .ref hmM, .ref hmD, .ref hmR, .ref hmB])), (hmW, .inl (cy 0, 8, .inl mW)), (hmP, .inl (cy 1, 8, .inr (.inl mP))), (hmK, .inl (cy 2, 8, .inl mK)), (hmF, .inl (cy 1, 264, .inr (.inl mF))), (hmH, .inl (cy 0, 264, .inl mH)), (hmM, .inl (cy 0, 8, .inl mM)), (hmD, .inl (cy 1, 8, .inr (.inl mD)))] sz)) (Qwl D (va_A [(hmo, .inr (5, [.int mC, .ref hmW, .ref hmP, .ref hmS, .ref hmE, .ref hmI, .ref hmO, .ref hmT, .int mN, .ref hmK, .ref hmF, .ref hmH, .ref hmM, .ref hmD, .ref hmR, .ref hmB])), (hmW, .inl (cy 0, 8, .inl mW)), (hmP, .inl (cy 1, 8, .inr (.inl mP))), (hmK, .inl (cy 2, 8, .inl mK)), (hmF, .inl (cy 1, 264, .inr (.inl mF))), (hmH, .inl (cy 0, 264, .inl mH)), (hmM, .inl (cy 0, 8, .inl mM)), (hmD, .inl (cy 1, 8, .inr (.inl mD)))] sz) [(hmo, .inr (5, [.int mC, .ref hmW, .ref hmP, .ref hmS, .ref hmE, .ref hmI, .ref hmO, .ref hmT, .int mN, .ref hmK, .ref hmF, .ref hmH, .ref hmM, .ref hmD, .ref hmR, .ref hmB])), (hmW, .inl (cy 0, 8, .inl mW)), (hmP, .inl (cy 1, 8, .inr (.inl mP))), (hmK, .inl (cy 2, 8, .inl r0.2.1)), (hmF, .inl (cy 1, 264, .inr (.inl r0.2.2.1))), (hmH, .inl (cy 0, 264, .inl r0.2.2.2.1)), (hmM, .inl (cy 0, 8, .inl r0.2.2.2.2.1)), (hmD, .inl (cy 1, 8, .inr (.inl r0.2.2.2.2.2)))] r0.1) 0 0 (va_A [(hmo, .inr (5, [.int mC, .ref hmW, .ref hmP, .ref hmS, .ref hmE, .ref hmI, .ref hmO, .ref hmT, .int mN, .ref hmK, .ref hmF, .ref hmH, .ref hmM, .ref hmD, .ref hmR, .ref hmB])), (hmW, .inl (cy 0, 8, .inl mW)), (hmP, .inl (cy 1, 8, .inr (.inl mP))), (hmK, .inl (cy 2, 8, .inl mK)), (hmF, .inl (cy 1, 264, .inr (.inl mF))), (hmH, .inl (cy 0, 264, .inl mH)), (hmM, .inl (cy 0, 8, .inl mM)), (hmD, .inl (cy 1, 8, .inr (.inl mD)))] sz) := by
  refine Met.ofW (cc := cX6_order) (maxL := 2) (ret := (some .long)) (by decide) rfl ?_
  intro p e s m args below meth c s₁ B hml hv
  obtain ⟨rfl, hsz, hP, hD0, hB⟩ := hv
  have hx := B.exec
  have hb := B.bytes
  have hr := B.returns
  have hts := atoms_spec (ws := wsX6_order) B.pre
  have hown : s.vm.findClass RX6 = some m.cls := findClass_of_methodNamed B.named
  have hlocks := B.notSynchronized
  have hK := hB.1
  have hN := hB.2
  subst hsz
  have hD := hD0.self (sz := s.heap.size)
  have hA : ∀ q : Nat, s.heap.size ≤ q → va_A [(hmo, .inr (5, [.int mC, .ref hmW, .ref hmP, .ref hmS, .ref hmE, .ref hmI, .ref hmO, .ref hmT, .int mN, .ref hmK, .ref hmF, .ref hmH, .ref hmM, .ref hmD, .ref hmR, .ref hmB])), (hmW, .inl (cy 0, 8, .inl mW)), (hmP, .inl (cy 1, 8, .inr (.inl mP))), (hmK, .inl (cy 2, 8, .inl mK)), (hmF, .inl (cy 1, 264, .inr (.inl mF))), (hmH, .inl (cy 0, 264, .inl mH)), (hmM, .inl (cy 0, 8, .inl mM)), (hmD, .inl (cy 1, 8, .inr (.inl mD)))] s.heap.size q := fun q h => Or.inr h
  generalize va_A [(hmo, .inr (5, [.int mC, .ref hmW, .ref hmP, .ref hmS, .ref hmE, .ref hmI, .ref hmO, .ref hmT, .int mN, .ref hmK, .ref hmF, .ref hmH, .ref hmM, .ref hmD, .ref hmR, .ref hmB])), (hmW, .inl (cy 0, 8, .inl mW)), (hmP, .inl (cy 1, 8, .inr (.inl mP))), (hmK, .inl (cy 2, 8, .inl mK)), (hmF, .inl (cy 1, 264, .inr (.inl mF))), (hmH, .inl (cy 0, 264, .inl mH)), (hmM, .inl (cy 0, 8, .inl mM)), (hmD, .inl (cy 1, 8, .inr (.inl mD)))] s.heap.size = A at hD hA ⊢
  have hS : va_S A s.heap s.heap [] := va_S.rf
  have hl := lv_entry ([.ref hmo, .int x1]) (n := 2) (Nat.le_of_ble_eq_true rfl)
  rw [lg_entry_eq]
  generalize (lg_sl ([.ref hmo, .int x1]) ++ List.replicate (2 - (lg_sl ([.ref hmo, .int x1])).length) Slot.unset).toArray = ls at hl ⊢
  have hl : lv_has ls 2 [(0, .ref hmo), (1, .int x1)] := hl
  have E0 : En p m c cX6_order 2 s ([.ref hmo, .int x1] : List Value).toArray wsX6_order RX6 meth (some .long) D cy := ⟨⟨hx, hb, hml, hown, hts⟩, hr, hlocks, hB⟩
  unfold fX6_order at hf
  refine lv_aload_n hx hb dX6_order_0 rfl (lv_at hl 0 rfl) ?_
  refine lv_iload_n hx hb dX6_order_1 rfl (lv_at hl 1 rfl) ?_
  obtain ⟨r_1, h_2, hf⟩ := bind_some hf
  have hP_r_1 : va_P D vwCl [(hmo, .inr (5, [.int mC, .ref hmW, .ref hmP, .ref hmS, .ref hmE, .ref hmI, .ref hmO, .ref hmT, .int mN, .ref hmK, .ref hmF, .ref hmH, .ref hmM, .ref hmD, .ref hmR, .ref hmB]))] s.heap := hP.sub [0] rfl
  refine cz_i (va_runV (As := [.int x1]) (rest := []) ⟨hx, hb, hml, hown, hts⟩ (ctX6_isForm l D cy N hmo hmW hmP hmS hmE hmI hmO hmT hmK hmF hmH hmM hmD hmR hmB mC mN x1 r_1 h_2) (cwV 1 hts gX6_order_X6_isForm rfl rfl rfl (by decide +kernel) ⟨Nat.le_of_ble_eq_true rfl, Nat.le_of_ble_eq_true rfl⟩) (preV_rd (ci := 5) (q0 := 0) [.int x1] hP_r_1 hB rfl rfl) rfl rfl hl.1 rfl (lv_room (Nat.le_of_ble_eq_true rfl)) dX6_order_2 ⟨Nat.zero_le _, Nat.zero_le _⟩) ?_
  refine lv_if_ne (tgt := 12) hx hb dX6_order_5 (by decide) (fun c_3 => ?_) (fun c_3 => ?_)
  · have hf := ite_f hf c_3
    refine lv_aload_n hx hb dX6_order_12 rfl (lv_at hl 0 rfl) ?_
    refine lv_iload_n hx hb dX6_order_13 rfl (lv_at hl 1 rfl) ?_
    obtain ⟨r_4, h_5, hf⟩ := bind_some hf
    have hP_r_4 : va_P D vwCl [(hmo, .inr (5, [.int mC, .ref hmW, .ref hmP, .ref hmS, .ref hmE, .ref hmI, .ref hmO, .ref hmT, .int mN, .ref hmK, .ref hmF, .ref hmH, .ref hmM, .ref hmD, .ref hmR, .ref hmB])), (hmW, .inl (cy 0, 8, .inl mW)), (hmP, .inl (cy 1, 8, .inr (.inl mP))), (hmK, .inl (cy 2, 8, .inl mK)), (hmF, .inl (cy 1, 264, .inr (.inl mF))), (hmH, .inl (cy 0, 264, .inl mH)), (hmM, .inl (cy 0, 8, .inl mM)), (hmD, .inl (cy 1, 8, .inr (.inl mD)))] s.heap := hP.sub [0, 1, 2, 3, 4, 5, 6, 7] rfl
    have hD_r_4 : va_D A [(hmo, .inr (5, [.int mC, .ref hmW, .ref hmP, .ref hmS, .ref hmE, .ref hmI, .ref hmO, .ref hmT, .int mN, .ref hmK, .ref hmF, .ref hmH, .ref hmM, .ref hmD, .ref hmR, .ref hmB])), (hmW, .inl (cy 0, 8, .inl mW)), (hmP, .inl (cy 1, 8, .inr (.inl mP))), (hmK, .inl (cy 2, 8, .inl mK)), (hmF, .inl (cy 1, 264, .inr (.inl mF))), (hmH, .inl (cy 0, 264, .inl mH)), (hmM, .inl (cy 0, 8, .inl mM)), (hmD, .inl (cy 1, 8, .inr (.inl mD)))] := hD.sub [0, 1, 2, 3, 4, 5, 6, 7] (by decide) rfl
    refine cj_v (wc := [(hmo, .inr (5, [.int mC, .ref hmW, .ref hmP, .ref hmS, .ref hmE, .ref hmI, .ref hmO, .ref hmT, .int mN, .ref hmK, .ref hmF, .ref hmH, .ref hmM, .ref hmD, .ref hmR, .ref hmB])), (hmW, .inl (cy 0, 8, .inl mW)), (hmP, .inl (cy 1, 8, .inr (.inl mP))), (hmK, .inl (cy 2, 8, .inl mK)), (hmF, .inl (cy 1, 264, .inr (.inl mF))), (hmH, .inl (cy 0, 264, .inl mH)), (hmM, .inl (cy 0, 8, .inl mM)), (hmD, .inl (cy 1, 8, .inr (.inl mD)))]) (wr := []) (w1 := [(hmo, .inr (5, [.int mC, .ref hmW, .ref hmP, .ref hmS, .ref hmE, .ref hmI, .ref hmO, .ref hmT, .int mN, .ref hmK, .ref hmF, .ref hmH, .ref hmM, .ref hmD, .ref hmR, .ref hmB])), (hmW, .inl (cy 0, 8, .inl mW)), (hmP, .inl (cy 1, 8, .inr (.inl mP))), (hmK, .inl (cy 2, 8, .inl r_4.1)), (hmF, .inl (cy 1, 264, .inr (.inl r_4.2.1))), (hmH, .inl (cy 0, 264, .inl r_4.2.2.1)), (hmM, .inl (cy 0, 8, .inl r_4.2.2.2.1)), (hmD, .inl (cy 1, 8, .inr (.inl r_4.2.2.2.2)))]) [0, 1, 2, 3, 4, 5, 6, 7] [] (va_runV (As := [.int x1]) (rest := []) ⟨hx, hb, hml, hown, hts⟩ (ctX6_know l D cy N hmo hmW hmP hmS hmE hmI hmO hmT hmK hmF hmH hmM hmD hmR hmB s.heap.size mC mN mW mP mK mF mH mM mD x1 r_4 h_5) (cwV 1 hts gX6_order_X6_know rfl rfl rfl (by decide +kernel) ⟨Nat.le_of_ble_eq_true rfl, Nat.le_of_ble_eq_true rfl⟩) (preV_wr (ci := 5) (q0 := 0) [.int x1] hP_r_4 hD_r_4 hB rfl rfl) rfl rfl hl.1 rfl (lv_room (Nat.le_of_ble_eq_true rfl)) dX6_order_14 ⟨Nat.zero_le _, Nat.zero_le _⟩) hP hD hS hA rfl rfl (by decide) (by decide) (fun H6 locs7 hP hD hS => ?_)
    have hP : va_P D vwCl [(hmo, .inr (5, [.int mC, .ref hmW, .ref hmP, .ref hmS, .ref hmE, .ref hmI, .ref hmO, .ref hmT, .int mN, .ref hmK, .ref hmF, .ref hmH, .ref hmM, .ref hmD, .ref hmR, .ref hmB])), (hmW, .inl (cy 0, 8, .inl mW)), (hmP, .inl (cy 1, 8, .inr (.inl mP))), (hmK, .inl (cy 2, 8, .inl r_4.1)), (hmF, .inl (cy 1, 264, .inr (.inl r_4.2.1))), (hmH, .inl (cy 0, 264, .inl r_4.2.2.1)), (hmM, .inl (cy 0, 8, .inl r_4.2.2.2.1)), (hmD, .inl (cy 1, 8, .inr (.inl r_4.2.2.2.2)))] H6 := hP.sub [0, 1, 2, 3, 4, 5, 6, 7] rfl
    have hD : va_D A [(hmo, .inr (5, [.int mC, .ref hmW, .ref hmP, .ref hmS, .ref hmE, .ref hmI, .ref hmO, .ref hmT, .int mN, .ref hmK, .ref hmF, .ref hmH, .ref hmM, .ref hmD, .ref hmR, .ref hmB])), (hmW, .inl (cy 0, 8, .inl mW)), (hmP, .inl (cy 1, 8, .inr (.inl mP))), (hmK, .inl (cy 2, 8, .inl r_4.1)), (hmF, .inl (cy 1, 264, .inr (.inl r_4.2.1))), (hmH, .inl (cy 0, 264, .inl r_4.2.2.1)), (hmM, .inl (cy 0, 8, .inl r_4.2.2.2.1)), (hmD, .inl (cy 1, 8, .inr (.inl r_4.2.2.2.2)))] := hD.sub [0, 1, 2, 3, 4, 5, 6, 7] (by decide) rfl
    refine lv_aload_n hx hb dX6_order_17 rfl (lv_at hl 0 rfl) ?_
    refine va_get (D := D) (ci := 5) (v := .ref hmD) (C := RX6) (T := TX6) (N := 16) hx hb hts inX6_order_X6 hown hK hP 0 rfl rfl 13 (by decide) (hts _ mX6_order_0) (fun _ h9 => h9) rfl dX6_order_18 ?_
    refine lv_iload_n hx hb dX6_order_21 rfl (lv_at hl 1 rfl) ?_
    obtain ⟨b_8, hf⟩ := ite_n hf
    refine va_lald hx hb hK hP 7 1 rfl rfl b_8 dX6_order_22 ?_
    cases hf
    exact W.lret (v := (r_4.2.2.2.2 x1.toNatClampNeg)) hx hb hr (fun t ht hW => ⟨⟨_, (), rfl, rfl, by rw [ht]; exact hP, hD⟩, hS.F ht⟩) hS.2.2 dX6_order_23
  · have hf := ite_t hf c_3
    refine lv_ldc2 (v := (-1 : Int64)) hx hb hown (hts _ mX6_order_1) dX6_order_8 ?_
    cases hf
    exact W.lret (v := (-1 : Int64)) hx hb hr (fun t ht hW => ⟨⟨_, (), rfl, rfl, by rw [ht]; exact hP, hD⟩, hS.F ht⟩) hS.2.2 dX6_order_11
/-! SumFormsModel.sum(III)J -/
abbrev rX6_sum : Room := { frames := 2, cells := 0, slots := 0, locals := 55 }
theorem mX6_sum_0 : Cond.constantLong RX6 91 (-1) ∈ wsX6_sum := by decide +kernel
theorem mX6_sum_1 : Cond.fieldLink RX6 17 "SumFormsModel" "start" "[J" ∈ wsX6_sum := by decide +kernel
theorem mX6_sum_2 : Cond.fieldLink RX6 30 "SumFormsModel" "text" "[I" ∈ wsX6_sum := by decide +kernel
theorem inX6_sum_X6 : ∀ w ∈ u_ws RX6 TX6 16, w ∈ wsX6_sum := by decide +kernel
abbrev GX6_sum (p : Program) (l : Launch) (e : Env) (s : State) (m : MethodId) (args : Array Value) (below : List Frame) (meth : Method) (c : Code) (r0 : Int64) (fr : JFrame) : Prop := W p l e (headSpec wsX6_sum rX6_sum).room s m args below meth c s.heap [] 0 0 (MQ below (vp_Sl (fun r => r = r0)) args s 0 0 (fun _ => False)) fr
def fX6_sum_B32 (N : Nat) (mC : Int32) (mN : Int32) (mW : Nat → Int32) (mP : Nat → Int64) (mS : Nat → Int64) (mE : Nat → Int64) (mI : Nat → Int32) (mO : Nat → Int32) (mT : Nat → Int32) (x1 : Int32) (x3 : Int32) (self : Int64 → Int32 → Option (Int64)) (k : Int64 → Option (Int64)) (x4 : Int64) (x6 : Int32) : Option (Int64) := (if x3 ≤ x6 then (k x4) else (if OOB x6 600 then none else ((fX6_taken N mW mP mI x1 x4 (mT x6.toNatClampNeg)).bind (fun r_10 => (self r_10 (x6 + (1 : Int32)))))))
def fX6_sum_L32 (N : Nat) (mC : Int32) (mN : Int32) (mW : Nat → Int32) (mP : Nat → Int64) (mS : Nat → Int64) (mE : Nat → Int64) (mI : Nat → Int32) (mO : Nat → Int32) (mT : Nat → Int32) (x1 : Int32) (x3 : Int32) (k : Int64 → Option (Int64)) : Nat → Int64 → Int32 → Option (Int64)
  | 0 => fun _ _ => none
  | n + 1 => fun x4 x6 => fX6_sum_B32 N mC mN mW mP mS mE mI mO mT x1 x3 (fX6_sum_L32 N mC mN mW mP mS mE mI mO mT x1 x3 k n) k x4 x6
def fX6_sum (N : Nat) (mC : Int32) (mN : Int32) (mW : Nat → Int32) (mP : Nat → Int64) (mS : Nat → Int64) (mE : Nat → Int64) (mI : Nat → Int32) (mO : Nat → Int32) (mT : Nat → Int32) (x1 : Int32) (x2 : Int32) (x3 : Int32) : Option (Int64) := ((fX6_isForm N mC x1).bind (fun r_1 => (if r_1 = 0 then (some (-1 : Int64)) else ((fX6_isSpan N mN x2 x3).bind (fun r_4 => (if r_4 = 0 then (some (-1 : Int64)) else (if OOB x1 8 then none else (fX6_sum_L32 N mC mN mW mP mS mE mI mO mT x1 x3 (fun x4_12 => ((fX6_told N mW mE mO x1 x4_12).bind (fun r_13 => (some r_13)))) N (mS x1.toNatClampNeg) x2))))))))
set_option maxHeartbeats 4000000 in
set_option maxRecDepth 100000 in
theorem wX6_sum_B32 {p : Program} {l : Launch} {e : Env} {s : State} {m : MethodId} {args : Array Value} {below : List Frame} {meth : Method} {c : Code} {D : va_G} {cy : Nat → ClassId} {hmo hmW hmP hmS hmE hmI hmO hmT hmK hmF hmH hmM hmD hmR hmB : Nat} {r0 : Int64} (E0 : En p m c cX6_sum 7 s args wsX6_sum RX6 meth (some .long) D cy) (N : Nat) (mC : Int32) (mN : Int32) (mW : Nat → Int32) (mP : Nat → Int64) (mS : Nat → Int64) (mE : Nat → Int64) (mI : Nat → Int32) (mO : Nat → Int32) (mT : Nat → Int32) (x1 : Int32) (x3 : Int32) (hP : va_P D vwCl [(hmo, .inr (5, [.int mC, .ref hmW, .ref hmP, .ref hmS, .ref hmE, .ref hmI, .ref hmO, .ref hmT, .int mN, .ref hmK, .ref hmF, .ref hmH, .ref hmM, .ref hmD, .ref hmR, .ref hmB])), (hmW, .inl (cy 0, 8, .inl mW)), (hmP, .inl (cy 1, 8, .inr (.inl mP))), (hmS, .inl (cy 1, 8, .inr (.inl mS))), (hmE, .inl (cy 1, 8, .inr (.inl mE))), (hmI, .inl (cy 2, 8, .inl mI)), (hmO, .inl (cy 2, 8, .inl mO)), (hmT, .inl (cy 0, 600, .inl mT))] s.heap) (self : Int64 → Int32 → Option (Int64)) (hself : ∀ (x4 : Int64) (x6 : Int32) (ls : Array Slot), lv_has ls 7 [(0, .ref hmo), (1, .int x1), (3, .int x3), (4, .long x4), (6, .int x6)] → self x4 x6 = some r0 → GX6_sum p l e s m args below meth c r0 (F0 m 32 ls [])) (k : Int64 → Option (Int64)) (hk : ∀ (x4 : Int64) (ls : Array Slot), lv_has ls 7 [(0, .ref hmo), (1, .int x1), (4, .long x4)] → k x4 = some r0 → GX6_sum p l e s m args below meth c r0 (F0 m 60 ls [])) : ∀ (x4 : Int64) (x6 : Int32) (ls : Array Slot), lv_has ls 7 [(0, .ref hmo), (1, .int x1), (3, .int x3), (4, .long x4), (6, .int x6)] → fX6_sum_B32 N mC mN mW mP mS mE mI mO mT x1 x3 self k x4 x6 = some r0 → GX6_sum p l e s m args below meth c r0 (F0 m 32 ls []) := by
  obtain ⟨⟨hx, hb, hml, hown, hts⟩, hr, hlocks, hB⟩ := id E0
  have hK := hB.1
  have hN := hB.2
  intro x4 x6 ls hl hf
  unfold fX6_sum_B32 at hf
  refine lv_iload hx hb dX6_sum_32 (lv_at hl 4 rfl) ?_
  refine lv_iload_n hx hb dX6_sum_34 rfl (lv_at hl 2 rfl) ?_
  refine lv_icmp_ge (tgt := 60) hx hb dX6_sum_35 (by decide) (fun c_8 => ?_) (fun c_8 => ?_)
  · have hf := ite_t hf c_8
    exact hk _ _ (lv_sub hl [0, 1, 3] rfl) hf
  · have hf := ite_f hf c_8
    refine lv_aload_n hx hb dX6_sum_38 rfl (lv_at hl 0 rfl) ?_
    refine lv_iload_n hx hb dX6_sum_39 rfl (lv_at hl 1 rfl) ?_
    refine lv_lload hx hb dX6_sum_40 (lv_at hl 3 rfl) ?_
    refine lv_aload_n hx hb dX6_sum_42 rfl (lv_at hl 0 rfl) ?_
    refine va_get (D := D) (ci := 5) (v := .ref hmT) (C := RX6) (T := TX6) (N := 16) hx hb hts inX6_sum_X6 hown hK hP 0 rfl rfl 7 (by decide) (hts _ mX6_sum_2) (fun _ h9 => h9) rfl dX6_sum_43 ?_
    refine lv_iload hx hb dX6_sum_46 (lv_at hl 4 rfl) ?_
    obtain ⟨b_9, hf⟩ := ite_n hf
    refine va_iald hx hb hK hP 7 0 rfl rfl b_9 dX6_sum_48 ?_
    obtain ⟨r_10, h_11, hf⟩ := bind_some hf
    have hP_r_10 : va_P D vwCl [(hmo, .inr (5, [.int mC, .ref hmW, .ref hmP, .ref hmS, .ref hmE, .ref hmI, .ref hmO, .ref hmT, .int mN, .ref hmK, .ref hmF, .ref hmH, .ref hmM, .ref hmD, .ref hmR, .ref hmB])), (hmW, .inl (cy 0, 8, .inl mW)), (hmP, .inl (cy 1, 8, .inr (.inl mP))), (hmI, .inl (cy 2, 8, .inl mI))] s.heap := hP.sub [0, 1, 2, 5] rfl
    refine cz_l (va_runV (As := [.int x1, .long x4, .int (mT x6.toNatClampNeg)]) (rest := []) ⟨hx, hb, hml, hown, hts⟩ (ctX6_taken l D cy N hmo hmW hmP hmS hmE hmI hmO hmT hmK hmF hmH hmM hmD hmR hmB mC mN mW mP mI x1 x4 (mT x6.toNatClampNeg) r_10 h_11) (cwV 3 hts gX6_sum_X6_taken rfl rfl rfl (by decide +kernel) ⟨Nat.le_of_ble_eq_true rfl, Nat.le_of_ble_eq_true rfl⟩) (preV_rd (ci := 5) (q0 := 0) [.int x1, .long x4, .int (mT x6.toNatClampNeg)] hP_r_10 hB rfl rfl) rfl rfl hl.1 rfl (lv_room (Nat.le_of_ble_eq_true rfl)) dX6_sum_49 ⟨Nat.zero_le _, Nat.zero_le _⟩) ?_
    refine lv_lstore (lv' := [(4, .long r_10), (0, .ref hmo), (1, .int x1), (3, .int x3), (6, .int x6)]) hx hb dX6_sum_52 hl (by decide) rfl (fun ls hl => ?_)
    refine lv_iinc (v := (x6 + (1 : Int32))) (lv' := [(6, .int (x6 + (1 : Int32))), (4, .long r_10), (0, .ref hmo), (1, .int x1), (3, .int x3)]) hx hb dX6_sum_54 hl (k := 4) rfl rfl (by decide) rfl (fun ls hl => ?_)
    refine lv_goto (tgt := 32) hx hb dX6_sum_57 (by decide) ?_
    exact hself _ _ _ (lv_sub hl [2, 3, 4, 1, 0] rfl) hf
theorem wX6_sum_L32 {p : Program} {l : Launch} {e : Env} {s : State} {m : MethodId} {args : Array Value} {below : List Frame} {meth : Method} {c : Code} {D : va_G} {cy : Nat → ClassId} {hmo hmW hmP hmS hmE hmI hmO hmT hmK hmF hmH hmM hmD hmR hmB : Nat} {r0 : Int64} (E0 : En p m c cX6_sum 7 s args wsX6_sum RX6 meth (some .long) D cy) (N : Nat) (mC : Int32) (mN : Int32) (mW : Nat → Int32) (mP : Nat → Int64) (mS : Nat → Int64) (mE : Nat → Int64) (mI : Nat → Int32) (mO : Nat → Int32) (mT : Nat → Int32) (x1 : Int32) (x3 : Int32) (hP : va_P D vwCl [(hmo, .inr (5, [.int mC, .ref hmW, .ref hmP, .ref hmS, .ref hmE, .ref hmI, .ref hmO, .ref hmT, .int mN, .ref hmK, .ref hmF, .ref hmH, .ref hmM, .ref hmD, .ref hmR, .ref hmB])), (hmW, .inl (cy 0, 8, .inl mW)), (hmP, .inl (cy 1, 8, .inr (.inl mP))), (hmS, .inl (cy 1, 8, .inr (.inl mS))), (hmE, .inl (cy 1, 8, .inr (.inl mE))), (hmI, .inl (cy 2, 8, .inl mI)), (hmO, .inl (cy 2, 8, .inl mO)), (hmT, .inl (cy 0, 600, .inl mT))] s.heap) (k : Int64 → Option (Int64)) (hk : ∀ (x4 : Int64) (ls : Array Slot), lv_has ls 7 [(0, .ref hmo), (1, .int x1), (4, .long x4)] → k x4 = some r0 → GX6_sum p l e s m args below meth c r0 (F0 m 60 ls [])) : ∀ (n : Nat), ∀ (x4 : Int64) (x6 : Int32) (ls : Array Slot), lv_has ls 7 [(0, .ref hmo), (1, .int x1), (3, .int x3), (4, .long x4), (6, .int x6)] → fX6_sum_L32 N mC mN mW mP mS mE mI mO mT x1 x3 k n x4 x6 = some r0 → GX6_sum p l e s m args below meth c r0 (F0 m 32 ls []) := by
  intro n
  induction n with
  | zero => intro x4 x6 ls hl hf; cases hf
  | succ n ih => exact wX6_sum_B32 E0 N mC mN mW mP mS mE mI mO mT x1 x3 hP _ ih k hk
set_option maxHeartbeats 4000000 in
set_option maxRecDepth 100000 in
theorem ctX6_sum (l : Launch) (D : va_G) (cy : Nat → ClassId) (N : Nat) (hmo hmW hmP hmS hmE hmI hmO hmT hmK hmF hmH hmM hmD hmR hmB : Nat) (mC : Int32) (mN : Int32) (mW : Nat → Int32) (mP : Nat → Int64) (mS : Nat → Int64) (mE : Nat → Int64) (mI : Nat → Int32) (mO : Nat → Int32) (mT : Nat → Int32) (x1 : Int32) (x2 : Int32) (x3 : Int32) (r0 : Int64) (hf : fX6_sum N mC mN mW mP mS mE mI mO mT x1 x2 x3 = some r0) : Met l yX6_sum wsX6_sum rX6_sum (va_Pc [.ref hmo, .int x1, .int x2, .int x3] (Rd D cy [(hmo, .inr (5, [.int mC, .ref hmW, .ref hmP, .ref hmS, .ref hmE, .ref hmI, .ref hmO, .ref hmT, .int mN, .ref hmK, .ref hmF, .ref hmH, .ref hmM, .ref hmD, .ref hmR, .ref hmB])), (hmW, .inl (cy 0, 8, .inl mW)), (hmP, .inl (cy 1, 8, .inr (.inl mP))), (hmS, .inl (cy 1, 8, .inr (.inl mS))), (hmE, .inl (cy 1, 8, .inr (.inl mE))), (hmI, .inl (cy 2, 8, .inl mI)), (hmO, .inl (cy 2, 8, .inl mO)), (hmT, .inl (cy 0, 600, .inl mT))])) (vp_Sl (fun r => r = r0)) 0 0 (fun _ => False) := by
  refine Met.ofW (cc := cX6_sum) (maxL := 7) (ret := (some .long)) (by decide) rfl ?_
  intro p e s m args below meth c s₁ B hml hv
  obtain ⟨rfl, hP, hB⟩ := hv
  have hx := B.exec
  have hb := B.bytes
  have hr := B.returns
  have hts := atoms_spec (ws := wsX6_sum) B.pre
  have hown : s.vm.findClass RX6 = some m.cls := findClass_of_methodNamed B.named
  have hlocks := B.notSynchronized
  have hK := hB.1
  have hN := hB.2
  have hl := lv_entry ([.ref hmo, .int x1, .int x2, .int x3]) (n := 7) (Nat.le_of_ble_eq_true rfl)
  rw [lg_entry_eq]
  generalize (lg_sl ([.ref hmo, .int x1, .int x2, .int x3]) ++ List.replicate (7 - (lg_sl ([.ref hmo, .int x1, .int x2, .int x3])).length) Slot.unset).toArray = ls at hl ⊢
  have hl : lv_has ls 7 [(0, .ref hmo), (1, .int x1), (2, .int x2), (3, .int x3)] := hl
  have E0 : En p m c cX6_sum 7 s ([.ref hmo, .int x1, .int x2, .int x3] : List Value).toArray wsX6_sum RX6 meth (some .long) D cy := ⟨⟨hx, hb, hml, hown, hts⟩, hr, hlocks, hB⟩
  unfold fX6_sum at hf
  refine lv_aload_n hx hb dX6_sum_0 rfl (lv_at hl 0 rfl) ?_
  refine lv_iload_n hx hb dX6_sum_1 rfl (lv_at hl 1 rfl) ?_
  obtain ⟨r_1, h_2, hf⟩ := bind_some hf
  have hP_r_1 : va_P D vwCl [(hmo, .inr (5, [.int mC, .ref hmW, .ref hmP, .ref hmS, .ref hmE, .ref hmI, .ref hmO, .ref hmT, .int mN, .ref hmK, .ref hmF, .ref hmH, .ref hmM, .ref hmD, .ref hmR, .ref hmB]))] s.heap := hP.sub [0] rfl
  refine cz_i (va_runV (As := [.int x1]) (rest := []) ⟨hx, hb, hml, hown, hts⟩ (ctX6_isForm l D cy N hmo hmW hmP hmS hmE hmI hmO hmT hmK hmF hmH hmM hmD hmR hmB mC mN x1 r_1 h_2) (cwV 1 hts gX6_sum_X6_isForm rfl rfl rfl (by decide +kernel) ⟨Nat.le_of_ble_eq_true rfl, Nat.le_of_ble_eq_true rfl⟩) (preV_rd (ci := 5) (q0 := 0) [.int x1] hP_r_1 hB rfl rfl) rfl rfl hl.1 rfl (lv_room (Nat.le_of_ble_eq_true rfl)) dX6_sum_2 ⟨Nat.zero_le _, Nat.zero_le _⟩) ?_
  refine lv_if_eq (tgt := 17) hx hb dX6_sum_5 (by decide) (fun c_3 => ?_) (fun c_3 => ?_)
  · have hf := ite_t hf c_3
    refine lv_ldc2 (v := (-1 : Int64)) hx hb hown (hts _ mX6_sum_0) dX6_sum_17 ?_
    exact W.lret (v := (-1 : Int64)) hx hb hr (fun t ht hW => ⟨_, rfl, Option.some.inj hf, ht⟩) (fun _ h => absurd h List.not_mem_nil) dX6_sum_20
  · have hf := ite_f hf c_3
    refine lv_aload_n hx hb dX6_sum_8 rfl (lv_at hl 0 rfl) ?_
    refine lv_iload_n hx hb dX6_sum_9 rfl (lv_at hl 2 rfl) ?_
    refine lv_iload_n hx hb dX6_sum_10 rfl (lv_at hl 3 rfl) ?_
    obtain ⟨r_4, h_5, hf⟩ := bind_some hf
    have hP_r_4 : va_P D vwCl [(hmo, .inr (5, [.int mC, .ref hmW, .ref hmP, .ref hmS, .ref hmE, .ref hmI, .ref hmO, .ref hmT, .int mN, .ref hmK, .ref hmF, .ref hmH, .ref hmM, .ref hmD, .ref hmR, .ref hmB]))] s.heap := hP.sub [0] rfl
    refine cz_i (va_runV (As := [.int x2, .int x3]) (rest := []) ⟨hx, hb, hml, hown, hts⟩ (ctX6_isSpan l D cy N hmo hmW hmP hmS hmE hmI hmO hmT hmK hmF hmH hmM hmD hmR hmB mC mN x2 x3 r_4 h_5) (cwV 2 hts gX6_sum_X6_isSpan rfl rfl rfl (by decide +kernel) ⟨Nat.le_of_ble_eq_true rfl, Nat.le_of_ble_eq_true rfl⟩) (preV_rd (ci := 5) (q0 := 0) [.int x2, .int x3] hP_r_4 hB rfl rfl) rfl rfl hl.1 rfl (lv_room (Nat.le_of_ble_eq_true rfl)) dX6_sum_11 ⟨Nat.zero_le _, Nat.zero_le _⟩) ?_
    refine lv_if_ne (tgt := 21) hx hb dX6_sum_14 (by decide) (fun c_6 => ?_) (fun c_6 => ?_)
    · have hf := ite_f hf c_6
      refine lv_aload_n hx hb dX6_sum_21 rfl (lv_at hl 0 rfl) ?_
      refine va_get (D := D) (ci := 5) (v := .ref hmS) (C := RX6) (T := TX6) (N := 16) hx hb hts inX6_sum_X6 hown hK hP 0 rfl rfl 3 (by decide) (hts _ mX6_sum_1) (fun _ h9 => h9) rfl dX6_sum_22 ?_
      refine lv_iload_n hx hb dX6_sum_25 rfl (lv_at hl 1 rfl) ?_
      obtain ⟨b_7, hf⟩ := ite_n hf
      refine va_lald hx hb hK hP 3 1 rfl rfl b_7 dX6_sum_26 ?_
      refine lv_lstore (lv' := [(4, .long (mS x1.toNatClampNeg)), (0, .ref hmo), (1, .int x1), (2, .int x2), (3, .int x3)]) hx hb dX6_sum_27 hl (by decide) rfl (fun ls hl => ?_)
      refine lv_iload_n hx hb dX6_sum_29 rfl (lv_at hl 3 rfl) ?_
      refine lv_istore (lv' := [(6, .int x2), (4, .long (mS x1.toNatClampNeg)), (0, .ref hmo), (1, .int x1), (2, .int x2), (3, .int x3)]) hx hb dX6_sum_30 hl (by decide) rfl (fun ls hl => ?_)
      refine wX6_sum_L32 E0 N mC mN mW mP mS mE mI mO mT x1 x3 hP _ (fun x4_12 ls hl hf => ?_) N _ _ _ (lv_sub hl [2, 3, 5, 1, 0] rfl) hf
      refine lv_aload_n hx hb dX6_sum_60 rfl (lv_at hl 0 rfl) ?_
      refine lv_iload_n hx hb dX6_sum_61 rfl (lv_at hl 1 rfl) ?_
      refine lv_lload hx hb dX6_sum_62 (lv_at hl 2 rfl) ?_
      obtain ⟨r_13, h_14, hf⟩ := bind_some hf
      have hP_r_13 : va_P D vwCl [(hmo, .inr (5, [.int mC, .ref hmW, .ref hmP, .ref hmS, .ref hmE, .ref hmI, .ref hmO, .ref hmT, .int mN, .ref hmK, .ref hmF, .ref hmH, .ref hmM, .ref hmD, .ref hmR, .ref hmB])), (hmW, .inl (cy 0, 8, .inl mW)), (hmE, .inl (cy 1, 8, .inr (.inl mE))), (hmO, .inl (cy 2, 8, .inl mO))] s.heap := hP.sub [0, 1, 4, 6] rfl
      refine cz_l (va_runV (As := [.int x1, .long x4_12]) (rest := []) ⟨hx, hb, hml, hown, hts⟩ (ctX6_told l D cy N hmo hmW hmP hmS hmE hmI hmO hmT hmK hmF hmH hmM hmD hmR hmB mC mN mW mE mO x1 x4_12 r_13 h_14) (cwV 2 hts gX6_sum_X6_told rfl rfl rfl (by decide +kernel) ⟨Nat.le_of_ble_eq_true rfl, Nat.le_of_ble_eq_true rfl⟩) (preV_rd (ci := 5) (q0 := 0) [.int x1, .long x4_12] hP_r_13 hB rfl rfl) rfl rfl hl.1 rfl (lv_room (Nat.le_of_ble_eq_true rfl)) dX6_sum_64 ⟨Nat.zero_le _, Nat.zero_le _⟩) ?_
      exact W.lret (v := r_13) hx hb hr (fun t ht hW => ⟨_, rfl, Option.some.inj hf, ht⟩) (fun _ h => absurd h List.not_mem_nil) dX6_sum_67
    · have hf := ite_t hf c_6
      refine lv_ldc2 (v := (-1 : Int64)) hx hb hown (hts _ mX6_sum_0) dX6_sum_17 ?_
      exact W.lret (v := (-1 : Int64)) hx hb hr (fun t ht hW => ⟨_, rfl, Option.some.inj hf, ht⟩) (fun _ h => absurd h List.not_mem_nil) dX6_sum_20
/-! SumFormsModel.tail(IJJ)J -/
abbrev rX6_tail : Room := { frames := 2, cells := 0, slots := 0, locals := 50 }
theorem mX6_tail_0 : Cond.constantLong RX6 91 (-1) ∈ wsX6_tail := by decide +kernel
theorem mX6_tail_1 : Cond.fieldLink RX6 7 "SumFormsModel" "width" "[I" ∈ wsX6_tail := by decide +kernel
theorem mX6_tail_2 : Cond.constantLong RX6 66 (255) ∈ wsX6_tail := by decide +kernel
theorem mX6_tail_3 : Cond.fieldLink RX6 23 "SumFormsModel" "turnsIn" "[Z" ∈ wsX6_tail := by decide +kernel
theorem inX6_tail_X6 : ∀ w ∈ u_ws RX6 TX6 16, w ∈ wsX6_tail := by decide +kernel
abbrev GX6_tail (p : Program) (l : Launch) (e : Env) (s : State) (m : MethodId) (args : Array Value) (below : List Frame) (meth : Method) (c : Code) (r0 : Int64) (fr : JFrame) : Prop := W p l e (headSpec wsX6_tail rX6_tail).room s m args below meth c s.heap [] 0 0 (MQ below (vp_Sl (fun r => r = r0)) args s 0 0 (fun _ => False)) fr
def fX6_tail_B47 (N : Nat) (mC : Int32) (mW : Nat → Int32) (mP : Nat → Int64) (mE : Nat → Int64) (mI : Nat → Int32) (mO : Nat → Int32) (x1 : Int32) (x2 : Int64) (self : Int64 → Int32 → Option (Int64)) (k : Int64 → Option (Int64)) (x6 : Int64) (x8 : Int32) : Option (Int64) := (if OOB x1 8 then none else (if (mW x1.toNatClampNeg) ≤ x8 then (k x6) else ((fX6_down N mW mP x1 x6).bind (fun r_13 => (self r_13 (x8 + (1 : Int32)))))))
def fX6_tail_L47 (N : Nat) (mC : Int32) (mW : Nat → Int32) (mP : Nat → Int64) (mE : Nat → Int64) (mI : Nat → Int32) (mO : Nat → Int32) (x1 : Int32) (x2 : Int64) (k : Int64 → Option (Int64)) : Nat → Int64 → Int32 → Option (Int64)
  | 0 => fun _ _ => none
  | n + 1 => fun x6 x8 => fX6_tail_B47 N mC mW mP mE mI mO x1 x2 (fX6_tail_L47 N mC mW mP mE mI mO x1 x2 k n) k x6 x8
def fX6_tail_B98 (N : Nat) (mC : Int32) (mW : Nat → Int32) (mP : Nat → Int64) (mE : Nat → Int64) (mI : Nat → Int32) (mO : Nat → Int32) (x1 : Int32) (x8 : Int64) (self : Int64 → Int32 → Option (Int64)) (k : Int64 → Option (Int64)) (x10 : Int64) (x12 : Int32) : Option (Int64) := (if x12 < 0 then (k x10) else (if OOB x1 8 then none else (if (mI x1.toNatClampNeg) = 0 then (self ((lShl x10 (8 : Int32)) ||| ((lShr x8 x12) &&& (255 : Int64))) (x12 + (-8 : Int32))) else ((fX6_turned N ((lShr x8 x12) &&& (255 : Int64)) (8 : Int32)).bind (fun r_22 => (self ((lShl x10 (8 : Int32)) ||| r_22) (x12 + (-8 : Int32))))))))
def fX6_tail_L98 (N : Nat) (mC : Int32) (mW : Nat → Int32) (mP : Nat → Int64) (mE : Nat → Int64) (mI : Nat → Int32) (mO : Nat → Int32) (x1 : Int32) (x8 : Int64) (k : Int64 → Option (Int64)) : Nat → Int64 → Int32 → Option (Int64)
  | 0 => fun _ _ => none
  | n + 1 => fun x10 x12 => fX6_tail_B98 N mC mW mP mE mI mO x1 x8 (fX6_tail_L98 N mC mW mP mE mI mO x1 x8 k n) k x10 x12
def fX6_tail (N : Nat) (mC : Int32) (mW : Nat → Int32) (mP : Nat → Int64) (mE : Nat → Int64) (mI : Nat → Int32) (mO : Nat → Int32) (x1 : Int32) (x2 : Int64) (x4 : Int64) : Option (Int64) := ((fX6_isSum N mC mW x1 x2).bind (fun r_1 => (if r_1 = 0 then (some (-1 : Int64)) else ((fX6_isSum N mC mW x1 x4).bind (fun r_4 => (if r_4 = 0 then (some (-1 : Int64)) else (if OOB x1 8 then none else (if (iRem (mW x1.toNatClampNeg) (8 : Int32)) = 0 then ((fX6_register N mW mE mO x1 x4).bind (fun r_9 => (fX6_tail_L47 N mC mW mP mE mI mO x1 x2 (fun x6_15 => ((fX6_register N mW mE mO x1 x2).bind (fun r_16 => (if OOB x1 8 then none else (fX6_tail_L98 N mC mW mP mE mI mO x1 (x6_15 ^^^ r_16) (fun x10_24 => (some x10_24)) N (0 : Int64) ((mW x1.toNatClampNeg) - (8 : Int32))))))) N r_9 (0 : Int32)))) else (some (-1 : Int64))))))))))
set_option maxHeartbeats 4000000 in
set_option maxRecDepth 100000 in
theorem wX6_tail_B47 {p : Program} {l : Launch} {e : Env} {s : State} {m : MethodId} {args : Array Value} {below : List Frame} {meth : Method} {c : Code} {D : va_G} {cy : Nat → ClassId} {hmo hmW hmP hmS hmE hmI hmO hmT hmK hmF hmH hmM hmD hmR hmB : Nat} {mN : Int32} {r0 : Int64} (E0 : En p m c cX6_tail 15 s args wsX6_tail RX6 meth (some .long) D cy) (N : Nat) (mC : Int32) (mW : Nat → Int32) (mP : Nat → Int64) (mE : Nat → Int64) (mI : Nat → Int32) (mO : Nat → Int32) (x1 : Int32) (x2 : Int64) (hP : va_P D vwCl [(hmo, .inr (5, [.int mC, .ref hmW, .ref hmP, .ref hmS, .ref hmE, .ref hmI, .ref hmO, .ref hmT, .int mN, .ref hmK, .ref hmF, .ref hmH, .ref hmM, .ref hmD, .ref hmR, .ref hmB])), (hmW, .inl (cy 0, 8, .inl mW)), (hmP, .inl (cy 1, 8, .inr (.inl mP))), (hmE, .inl (cy 1, 8, .inr (.inl mE))), (hmI, .inl (cy 2, 8, .inl mI)), (hmO, .inl (cy 2, 8, .inl mO))] s.heap) (self : Int64 → Int32 → Option (Int64)) (hself : ∀ (x6 : Int64) (x8 : Int32) (ls : Array Slot), lv_has ls 15 [(0, .ref hmo), (1, .int x1), (2, .long x2), (6, .long x6), (8, .int x8)] → self x6 x8 = some r0 → GX6_tail p l e s m args below meth c r0 (F0 m 47 ls [])) (k : Int64 → Option (Int64)) (hk : ∀ (x6 : Int64) (ls : Array Slot), lv_has ls 15 [(0, .ref hmo), (1, .int x1), (2, .long x2), (6, .long x6)] → k x6 = some r0 → GX6_tail p l e s m args below meth c r0 (F0 m 73 ls [])) : ∀ (x6 : Int64) (x8 : Int32) (ls : Array Slot), lv_has ls 15 [(0, .ref hmo), (1, .int x1), (2, .long x2), (6, .long x6), (8, .int x8)] → fX6_tail_B47 N mC mW mP mE mI mO x1 x2 self k x6 x8 = some r0 → GX6_tail p l e s m args below meth c r0 (F0 m 47 ls []) := by
  obtain ⟨⟨hx, hb, hml, hown, hts⟩, hr, hlocks, hB⟩ := id E0
  have hK := hB.1
  have hN := hB.2
  intro x6 x8 ls hl hf
  unfold fX6_tail_B47 at hf
  refine lv_iload hx hb dX6_tail_47 (lv_at hl 4 rfl) ?_
  refine lv_aload_n hx hb dX6_tail_49 rfl (lv_at hl 0 rfl) ?_
  refine va_get (D := D) (ci := 5) (v := .ref hmW) (C := RX6) (T := TX6) (N := 16) hx hb hts inX6_tail_X6 hown hK hP 0 rfl rfl 1 (by decide) (hts _ mX6_tail_1) (fun _ h9 => h9) rfl dX6_tail_50 ?_
  refine lv_iload_n hx hb dX6_tail_53 rfl (lv_at hl 1 rfl) ?_
  obtain ⟨b_11, hf⟩ := ite_n hf
  refine va_iald hx hb hK hP 1 0 rfl rfl b_11 dX6_tail_54 ?_
  refine lv_icmp_ge (tgt := 73) hx hb dX6_tail_55 (by decide) (fun c_12 => ?_) (fun c_12 => ?_)
  · have hf := ite_t hf c_12
    exact hk _ _ (lv_sub hl [0, 1, 2, 3] rfl) hf
  · have hf := ite_f hf c_12
    refine lv_aload_n hx hb dX6_tail_58 rfl (lv_at hl 0 rfl) ?_
    refine lv_iload_n hx hb dX6_tail_59 rfl (lv_at hl 1 rfl) ?_
    refine lv_lload hx hb dX6_tail_60 (lv_at hl 3 rfl) ?_
    obtain ⟨r_13, h_14, hf⟩ := bind_some hf
    have hP_r_13 : va_P D vwCl [(hmo, .inr (5, [.int mC, .ref hmW, .ref hmP, .ref hmS, .ref hmE, .ref hmI, .ref hmO, .ref hmT, .int mN, .ref hmK, .ref hmF, .ref hmH, .ref hmM, .ref hmD, .ref hmR, .ref hmB])), (hmW, .inl (cy 0, 8, .inl mW)), (hmP, .inl (cy 1, 8, .inr (.inl mP)))] s.heap := hP.sub [0, 1, 2] rfl
    refine cz_l (va_runV (As := [.int x1, .long x6]) (rest := []) ⟨hx, hb, hml, hown, hts⟩ (ctX6_down l D cy N hmo hmW hmP hmS hmE hmI hmO hmT hmK hmF hmH hmM hmD hmR hmB mC mN mW mP x1 x6 r_13 h_14) (cwV 2 hts gX6_tail_X6_down rfl rfl rfl (by decide +kernel) ⟨Nat.le_of_ble_eq_true rfl, Nat.le_of_ble_eq_true rfl⟩) (preV_rd (ci := 5) (q0 := 0) [.int x1, .long x6] hP_r_13 hB rfl rfl) rfl rfl hl.1 rfl (lv_room (Nat.le_of_ble_eq_true rfl)) dX6_tail_62 ⟨Nat.zero_le _, Nat.zero_le _⟩) ?_
    refine lv_lstore (lv' := [(6, .long r_13), (0, .ref hmo), (1, .int x1), (2, .long x2), (8, .int x8)]) hx hb dX6_tail_65 hl (by decide) rfl (fun ls hl => ?_)
    refine lv_iinc (v := (x8 + (1 : Int32))) (lv' := [(8, .int (x8 + (1 : Int32))), (6, .long r_13), (0, .ref hmo), (1, .int x1), (2, .long x2)]) hx hb dX6_tail_67 hl (k := 4) rfl rfl (by decide) rfl (fun ls hl => ?_)
    refine lv_goto (tgt := 47) hx hb dX6_tail_70 (by decide) ?_
    exact hself _ _ _ (lv_sub hl [2, 3, 4, 1, 0] rfl) hf
theorem wX6_tail_L47 {p : Program} {l : Launch} {e : Env} {s : State} {m : MethodId} {args : Array Value} {below : List Frame} {meth : Method} {c : Code} {D : va_G} {cy : Nat → ClassId} {hmo hmW hmP hmS hmE hmI hmO hmT hmK hmF hmH hmM hmD hmR hmB : Nat} {mN : Int32} {r0 : Int64} (E0 : En p m c cX6_tail 15 s args wsX6_tail RX6 meth (some .long) D cy) (N : Nat) (mC : Int32) (mW : Nat → Int32) (mP : Nat → Int64) (mE : Nat → Int64) (mI : Nat → Int32) (mO : Nat → Int32) (x1 : Int32) (x2 : Int64) (hP : va_P D vwCl [(hmo, .inr (5, [.int mC, .ref hmW, .ref hmP, .ref hmS, .ref hmE, .ref hmI, .ref hmO, .ref hmT, .int mN, .ref hmK, .ref hmF, .ref hmH, .ref hmM, .ref hmD, .ref hmR, .ref hmB])), (hmW, .inl (cy 0, 8, .inl mW)), (hmP, .inl (cy 1, 8, .inr (.inl mP))), (hmE, .inl (cy 1, 8, .inr (.inl mE))), (hmI, .inl (cy 2, 8, .inl mI)), (hmO, .inl (cy 2, 8, .inl mO))] s.heap) (k : Int64 → Option (Int64)) (hk : ∀ (x6 : Int64) (ls : Array Slot), lv_has ls 15 [(0, .ref hmo), (1, .int x1), (2, .long x2), (6, .long x6)] → k x6 = some r0 → GX6_tail p l e s m args below meth c r0 (F0 m 73 ls [])) : ∀ (n : Nat), ∀ (x6 : Int64) (x8 : Int32) (ls : Array Slot), lv_has ls 15 [(0, .ref hmo), (1, .int x1), (2, .long x2), (6, .long x6), (8, .int x8)] → fX6_tail_L47 N mC mW mP mE mI mO x1 x2 k n x6 x8 = some r0 → GX6_tail p l e s m args below meth c r0 (F0 m 47 ls []) := by
  intro n
  induction n with
  | zero => intro x6 x8 ls hl hf; cases hf
  | succ n ih => exact wX6_tail_B47 E0 N mC mW mP mE mI mO x1 x2 hP _ ih k hk
set_option maxHeartbeats 4000000 in
set_option maxRecDepth 100000 in
theorem wX6_tail_B98 {p : Program} {l : Launch} {e : Env} {s : State} {m : MethodId} {args : Array Value} {below : List Frame} {meth : Method} {c : Code} {D : va_G} {cy : Nat → ClassId} {hmo hmW hmP hmS hmE hmI hmO hmT hmK hmF hmH hmM hmD hmR hmB : Nat} {mN : Int32} {r0 : Int64} (E0 : En p m c cX6_tail 15 s args wsX6_tail RX6 meth (some .long) D cy) (N : Nat) (mC : Int32) (mW : Nat → Int32) (mP : Nat → Int64) (mE : Nat → Int64) (mI : Nat → Int32) (mO : Nat → Int32) (x1 : Int32) (x8 : Int64) (hP : va_P D vwCl [(hmo, .inr (5, [.int mC, .ref hmW, .ref hmP, .ref hmS, .ref hmE, .ref hmI, .ref hmO, .ref hmT, .int mN, .ref hmK, .ref hmF, .ref hmH, .ref hmM, .ref hmD, .ref hmR, .ref hmB])), (hmW, .inl (cy 0, 8, .inl mW)), (hmP, .inl (cy 1, 8, .inr (.inl mP))), (hmE, .inl (cy 1, 8, .inr (.inl mE))), (hmI, .inl (cy 2, 8, .inl mI)), (hmO, .inl (cy 2, 8, .inl mO))] s.heap) (self : Int64 → Int32 → Option (Int64)) (hself : ∀ (x10 : Int64) (x12 : Int32) (ls : Array Slot), lv_has ls 15 [(0, .ref hmo), (1, .int x1), (8, .long x8), (10, .long x10), (12, .int x12)] → self x10 x12 = some r0 → GX6_tail p l e s m args below meth c r0 (F0 m 98 ls [])) (k : Int64 → Option (Int64)) (hk : ∀ (x10 : Int64) (ls : Array Slot), lv_has ls 15 [(10, .long x10)] → k x10 = some r0 → GX6_tail p l e s m args below meth c r0 (F0 m 149 ls [])) : ∀ (x10 : Int64) (x12 : Int32) (ls : Array Slot), lv_has ls 15 [(0, .ref hmo), (1, .int x1), (8, .long x8), (10, .long x10), (12, .int x12)] → fX6_tail_B98 N mC mW mP mE mI mO x1 x8 self k x10 x12 = some r0 → GX6_tail p l e s m args below meth c r0 (F0 m 98 ls []) := by
  obtain ⟨⟨hx, hb, hml, hown, hts⟩, hr, hlocks, hB⟩ := id E0
  have hK := hB.1
  have hN := hB.2
  intro x10 x12 ls hl hf
  unfold fX6_tail_B98 at hf
  refine lv_iload hx hb dX6_tail_98 (lv_at hl 4 rfl) ?_
  refine lv_if_lt (tgt := 149) hx hb dX6_tail_100 (by decide) (fun c_19 => ?_) (fun c_19 => ?_)
  · have hf := ite_t hf c_19
    exact hk _ _ (lv_sub hl [3] rfl) hf
  · have hf := ite_f hf c_19
    refine lv_lload hx hb dX6_tail_103 (lv_at hl 2 rfl) ?_
    refine lv_iload hx hb dX6_tail_105 (lv_at hl 4 rfl) ?_
    refine zz_lshr hx hb dX6_tail_107 ?_
    refine lv_ldc2 (v := (255 : Int64)) hx hb hown (hts _ mX6_tail_2) dX6_tail_108 ?_
    refine lv_land hx hb dX6_tail_111 ?_
    refine lv_lstore (lv' := [(13, .long ((lShr x8 x12) &&& (255 : Int64))), (0, .ref hmo), (1, .int x1), (8, .long x8), (10, .long x10), (12, .int x12)]) hx hb dX6_tail_112 hl (by decide) rfl (fun ls hl => ?_)
    refine lv_lload hx hb dX6_tail_114 (lv_at hl 4 rfl) ?_
    refine lv_bipush (v := (8 : Int32)) hx hb dX6_tail_116 (by decide) ?_
    refine zz_lshl hx hb dX6_tail_118 ?_
    refine lv_aload_n hx hb dX6_tail_119 rfl (lv_at hl 1 rfl) ?_
    refine va_get (D := D) (ci := 5) (v := .ref hmI) (C := RX6) (T := TX6) (N := 16) hx hb hts inX6_tail_X6 hown hK hP 0 rfl rfl 5 (by decide) (hts _ mX6_tail_3) (fun _ h9 => h9) rfl dX6_tail_120 ?_
    refine lv_iload_n hx hb dX6_tail_123 rfl (lv_at hl 2 rfl) ?_
    obtain ⟨b_20, hf⟩ := ite_n hf
    refine va_zald hx hb hK hP 4 2 rfl rfl b_20 dX6_tail_124 ?_
    refine lv_if_eq (tgt := 138) hx hb dX6_tail_125 (by decide) (fun c_21 => ?_) (fun c_21 => ?_)
    · have hf := ite_t hf c_21
      refine lv_lload hx hb dX6_tail_138 (lv_at hl 0 rfl) ?_
      refine lv_lor hx hb dX6_tail_140 ?_
      refine lv_lstore (lv' := [(10, .long ((lShl x10 (8 : Int32)) ||| ((lShr x8 x12) &&& (255 : Int64)))), (13, .long ((lShr x8 x12) &&& (255 : Int64))), (0, .ref hmo), (1, .int x1), (8, .long x8), (12, .int x12)]) hx hb dX6_tail_141 hl (by decide) rfl (fun ls hl => ?_)
      refine lv_iinc (v := (x12 + (-8 : Int32))) (lv' := [(12, .int (x12 + (-8 : Int32))), (10, .long ((lShl x10 (8 : Int32)) ||| ((lShr x8 x12) &&& (255 : Int64)))), (13, .long ((lShr x8 x12) &&& (255 : Int64))), (0, .ref hmo), (1, .int x1), (8, .long x8)]) hx hb dX6_tail_143 hl (k := 5) rfl rfl (by decide) rfl (fun ls hl => ?_)
      refine lv_goto (tgt := 98) hx hb dX6_tail_146 (by decide) ?_
      exact hself _ _ _ (lv_sub hl [3, 4, 5, 1, 0] rfl) hf
    · have hf := ite_f hf c_21
      refine lv_lload hx hb dX6_tail_128 (lv_at hl 0 rfl) ?_
      refine lv_bipush (v := (8 : Int32)) hx hb dX6_tail_130 (by decide) ?_
      obtain ⟨r_22, h_23, hf⟩ := bind_some hf
      have hP_r_22 : va_P D vwCl [] s.heap := hP.sub [] rfl
      refine cz_l (va_runS (As := [.long ((lShr x8 x12) &&& (255 : Int64)), .int (8 : Int32)]) (rest := [.long (lShl x10 (8 : Int32))]) ⟨hx, hb, hml, hown, hts⟩ (ctX6_turned l D cy N   ((lShr x8 x12) &&& (255 : Int64)) (8 : Int32) r_22 h_23) (va_cwS 2 hts gX6_tail_X6_turned rfl rfl rfl (by decide +kernel) ⟨Nat.le_of_ble_eq_true rfl, Nat.le_of_ble_eq_true rfl⟩) (preS_rd [.long ((lShr x8 x12) &&& (255 : Int64)), .int (8 : Int32)] hP_r_22 hB) rfl rfl hl.1 rfl (lv_room (Nat.le_of_ble_eq_true rfl)) dX6_tail_132 ⟨Nat.zero_le _, Nat.zero_le _⟩) ?_
      refine lv_goto (tgt := 140) hx hb dX6_tail_135 (by decide) ?_
      refine lv_lor hx hb dX6_tail_140 ?_
      refine lv_lstore (lv' := [(10, .long ((lShl x10 (8 : Int32)) ||| r_22)), (13, .long ((lShr x8 x12) &&& (255 : Int64))), (0, .ref hmo), (1, .int x1), (8, .long x8), (12, .int x12)]) hx hb dX6_tail_141 hl (by decide) rfl (fun ls hl => ?_)
      refine lv_iinc (v := (x12 + (-8 : Int32))) (lv' := [(12, .int (x12 + (-8 : Int32))), (10, .long ((lShl x10 (8 : Int32)) ||| r_22)), (13, .long ((lShr x8 x12) &&& (255 : Int64))), (0, .ref hmo), (1, .int x1), (8, .long x8)]) hx hb dX6_tail_143 hl (k := 5) rfl rfl (by decide) rfl (fun ls hl => ?_)
      refine lv_goto (tgt := 98) hx hb dX6_tail_146 (by decide) ?_
      exact hself _ _ _ (lv_sub hl [3, 4, 5, 1, 0] rfl) hf
theorem wX6_tail_L98 {p : Program} {l : Launch} {e : Env} {s : State} {m : MethodId} {args : Array Value} {below : List Frame} {meth : Method} {c : Code} {D : va_G} {cy : Nat → ClassId} {hmo hmW hmP hmS hmE hmI hmO hmT hmK hmF hmH hmM hmD hmR hmB : Nat} {mN : Int32} {r0 : Int64} (E0 : En p m c cX6_tail 15 s args wsX6_tail RX6 meth (some .long) D cy) (N : Nat) (mC : Int32) (mW : Nat → Int32) (mP : Nat → Int64) (mE : Nat → Int64) (mI : Nat → Int32) (mO : Nat → Int32) (x1 : Int32) (x8 : Int64) (hP : va_P D vwCl [(hmo, .inr (5, [.int mC, .ref hmW, .ref hmP, .ref hmS, .ref hmE, .ref hmI, .ref hmO, .ref hmT, .int mN, .ref hmK, .ref hmF, .ref hmH, .ref hmM, .ref hmD, .ref hmR, .ref hmB])), (hmW, .inl (cy 0, 8, .inl mW)), (hmP, .inl (cy 1, 8, .inr (.inl mP))), (hmE, .inl (cy 1, 8, .inr (.inl mE))), (hmI, .inl (cy 2, 8, .inl mI)), (hmO, .inl (cy 2, 8, .inl mO))] s.heap) (k : Int64 → Option (Int64)) (hk : ∀ (x10 : Int64) (ls : Array Slot), lv_has ls 15 [(10, .long x10)] → k x10 = some r0 → GX6_tail p l e s m args below meth c r0 (F0 m 149 ls [])) : ∀ (n : Nat), ∀ (x10 : Int64) (x12 : Int32) (ls : Array Slot), lv_has ls 15 [(0, .ref hmo), (1, .int x1), (8, .long x8), (10, .long x10), (12, .int x12)] → fX6_tail_L98 N mC mW mP mE mI mO x1 x8 k n x10 x12 = some r0 → GX6_tail p l e s m args below meth c r0 (F0 m 98 ls []) := by
  intro n
  induction n with
  | zero => intro x10 x12 ls hl hf; cases hf
  | succ n ih => exact wX6_tail_B98 E0 N mC mW mP mE mI mO x1 x8 hP _ ih k hk
set_option maxHeartbeats 4000000 in
set_option maxRecDepth 100000 in
theorem ctX6_tail (l : Launch) (D : va_G) (cy : Nat → ClassId) (N : Nat) (hmo hmW hmP hmS hmE hmI hmO hmT hmK hmF hmH hmM hmD hmR hmB : Nat) (mC : Int32) (mN : Int32) (mW : Nat → Int32) (mP : Nat → Int64) (mE : Nat → Int64) (mI : Nat → Int32) (mO : Nat → Int32) (x1 : Int32) (x2 : Int64) (x4 : Int64) (r0 : Int64) (hf : fX6_tail N mC mW mP mE mI mO x1 x2 x4 = some r0) : Met l yX6_tail wsX6_tail rX6_tail (va_Pc [.ref hmo, .int x1, .long x2, .long x4] (Rd D cy [(hmo, .inr (5, [.int mC, .ref hmW, .ref hmP, .ref hmS, .ref hmE, .ref hmI, .ref hmO, .ref hmT, .int mN, .ref hmK, .ref hmF, .ref hmH, .ref hmM, .ref hmD, .ref hmR, .ref hmB])), (hmW, .inl (cy 0, 8, .inl mW)), (hmP, .inl (cy 1, 8, .inr (.inl mP))), (hmE, .inl (cy 1, 8, .inr (.inl mE))), (hmI, .inl (cy 2, 8, .inl mI)), (hmO, .inl (cy 2, 8, .inl mO))])) (vp_Sl (fun r => r = r0)) 0 0 (fun _ => False) := by
  refine Met.ofW (cc := cX6_tail) (maxL := 15) (ret := (some .long)) (by decide) rfl ?_
  intro p e s m args below meth c s₁ B hml hv
  obtain ⟨rfl, hP, hB⟩ := hv
  have hx := B.exec
  have hb := B.bytes
  have hr := B.returns
  have hts := atoms_spec (ws := wsX6_tail) B.pre
  have hown : s.vm.findClass RX6 = some m.cls := findClass_of_methodNamed B.named
  have hlocks := B.notSynchronized
  have hK := hB.1
  have hN := hB.2
  have hl := lv_entry ([.ref hmo, .int x1, .long x2, .long x4]) (n := 15) (Nat.le_of_ble_eq_true rfl)
  rw [lg_entry_eq]
  generalize (lg_sl ([.ref hmo, .int x1, .long x2, .long x4]) ++ List.replicate (15 - (lg_sl ([.ref hmo, .int x1, .long x2, .long x4])).length) Slot.unset).toArray = ls at hl ⊢
  have hl : lv_has ls 15 [(0, .ref hmo), (1, .int x1), (2, .long x2), (4, .long x4)] := hl
  have E0 : En p m c cX6_tail 15 s ([.ref hmo, .int x1, .long x2, .long x4] : List Value).toArray wsX6_tail RX6 meth (some .long) D cy := ⟨⟨hx, hb, hml, hown, hts⟩, hr, hlocks, hB⟩
  unfold fX6_tail at hf
  refine lv_aload_n hx hb dX6_tail_0 rfl (lv_at hl 0 rfl) ?_
  refine lv_iload_n hx hb dX6_tail_1 rfl (lv_at hl 1 rfl) ?_
  refine lv_lload_n hx hb dX6_tail_2 rfl (lv_at hl 2 rfl) ?_
  obtain ⟨r_1, h_2, hf⟩ := bind_some hf
  have hP_r_1 : va_P D vwCl [(hmo, .inr (5, [.int mC, .ref hmW, .ref hmP, .ref hmS, .ref hmE, .ref hmI, .ref hmO, .ref hmT, .int mN, .ref hmK, .ref hmF, .ref hmH, .ref hmM, .ref hmD, .ref hmR, .ref hmB])), (hmW, .inl (cy 0, 8, .inl mW))] s.heap := hP.sub [0, 1] rfl
  refine cz_i (va_runV (As := [.int x1, .long x2]) (rest := []) ⟨hx, hb, hml, hown, hts⟩ (ctX6_isSum l D cy N hmo hmW hmP hmS hmE hmI hmO hmT hmK hmF hmH hmM hmD hmR hmB mC mN mW x1 x2 r_1 h_2) (cwV 2 hts gX6_tail_X6_isSum rfl rfl rfl (by decide +kernel) ⟨Nat.le_of_ble_eq_true rfl, Nat.le_of_ble_eq_true rfl⟩) (preV_rd (ci := 5) (q0 := 0) [.int x1, .long x2] hP_r_1 hB rfl rfl) rfl rfl hl.1 rfl (lv_room (Nat.le_of_ble_eq_true rfl)) dX6_tail_3 ⟨Nat.zero_le _, Nat.zero_le _⟩) ?_
  refine lv_if_eq (tgt := 31) hx hb dX6_tail_6 (by decide) (fun c_3 => ?_) (fun c_3 => ?_)
  · have hf := ite_t hf c_3
    refine lv_ldc2 (v := (-1 : Int64)) hx hb hown (hts _ mX6_tail_0) dX6_tail_31 ?_
    exact W.lret (v := (-1 : Int64)) hx hb hr (fun t ht hW => ⟨_, rfl, Option.some.inj hf, ht⟩) (fun _ h => absurd h List.not_mem_nil) dX6_tail_34
  · have hf := ite_f hf c_3
    refine lv_aload_n hx hb dX6_tail_9 rfl (lv_at hl 0 rfl) ?_
    refine lv_iload_n hx hb dX6_tail_10 rfl (lv_at hl 1 rfl) ?_
    refine lv_lload hx hb dX6_tail_11 (lv_at hl 3 rfl) ?_
    obtain ⟨r_4, h_5, hf⟩ := bind_some hf
    have hP_r_4 : va_P D vwCl [(hmo, .inr (5, [.int mC, .ref hmW, .ref hmP, .ref hmS, .ref hmE, .ref hmI, .ref hmO, .ref hmT, .int mN, .ref hmK, .ref hmF, .ref hmH, .ref hmM, .ref hmD, .ref hmR, .ref hmB])), (hmW, .inl (cy 0, 8, .inl mW))] s.heap := hP.sub [0, 1] rfl
    refine cz_i (va_runV (As := [.int x1, .long x4]) (rest := []) ⟨hx, hb, hml, hown, hts⟩ (ctX6_isSum l D cy N hmo hmW hmP hmS hmE hmI hmO hmT hmK hmF hmH hmM hmD hmR hmB mC mN mW x1 x4 r_4 h_5) (cwV 2 hts gX6_tail_X6_isSum rfl rfl rfl (by decide +kernel) ⟨Nat.le_of_ble_eq_true rfl, Nat.le_of_ble_eq_true rfl⟩) (preV_rd (ci := 5) (q0 := 0) [.int x1, .long x4] hP_r_4 hB rfl rfl) rfl rfl hl.1 rfl (lv_room (Nat.le_of_ble_eq_true rfl)) dX6_tail_13 ⟨Nat.zero_le _, Nat.zero_le _⟩) ?_
    refine lv_if_eq (tgt := 31) hx hb dX6_tail_16 (by decide) (fun c_6 => ?_) (fun c_6 => ?_)
    · have hf := ite_t hf c_6
      refine lv_ldc2 (v := (-1 : Int64)) hx hb hown (hts _ mX6_tail_0) dX6_tail_31 ?_
      exact W.lret (v := (-1 : Int64)) hx hb hr (fun t ht hW => ⟨_, rfl, Option.some.inj hf, ht⟩) (fun _ h => absurd h List.not_mem_nil) dX6_tail_34
    · have hf := ite_f hf c_6
      refine lv_aload_n hx hb dX6_tail_19 rfl (lv_at hl 0 rfl) ?_
      refine va_get (D := D) (ci := 5) (v := .ref hmW) (C := RX6) (T := TX6) (N := 16) hx hb hts inX6_tail_X6 hown hK hP 0 rfl rfl 1 (by decide) (hts _ mX6_tail_1) (fun _ h9 => h9) rfl dX6_tail_20 ?_
      refine lv_iload_n hx hb dX6_tail_23 rfl (lv_at hl 1 rfl) ?_
      obtain ⟨b_7, hf⟩ := ite_n hf
      refine va_iald hx hb hK hP 1 0 rfl rfl b_7 dX6_tail_24 ?_
      refine lv_bipush (v := (8 : Int32)) hx hb dX6_tail_25 (by decide) ?_
      refine zz_irem hx hb dX6_tail_27 (by decide) ?_
      refine lv_if_eq (tgt := 35) hx hb dX6_tail_28 (by decide) (fun c_8 => ?_) (fun c_8 => ?_)
      · have hf := ite_t hf c_8
        refine lv_aload_n hx hb dX6_tail_35 rfl (lv_at hl 0 rfl) ?_
        refine lv_iload_n hx hb dX6_tail_36 rfl (lv_at hl 1 rfl) ?_
        refine lv_lload hx hb dX6_tail_37 (lv_at hl 3 rfl) ?_
        obtain ⟨r_9, h_10, hf⟩ := bind_some hf
        have hP_r_9 : va_P D vwCl [(hmo, .inr (5, [.int mC, .ref hmW, .ref hmP, .ref hmS, .ref hmE, .ref hmI, .ref hmO, .ref hmT, .int mN, .ref hmK, .ref hmF, .ref hmH, .ref hmM, .ref hmD, .ref hmR, .ref hmB])), (hmW, .inl (cy 0, 8, .inl mW)), (hmE, .inl (cy 1, 8, .inr (.inl mE))), (hmO, .inl (cy 2, 8, .inl mO))] s.heap := hP.sub [0, 1, 3, 5] rfl
        refine cz_l (va_runV (As := [.int x1, .long x4]) (rest := []) ⟨hx, hb, hml, hown, hts⟩ (ctX6_register l D cy N hmo hmW hmP hmS hmE hmI hmO hmT hmK hmF hmH hmM hmD hmR hmB mC mN mW mE mO x1 x4 r_9 h_10) (cwV 2 hts gX6_tail_X6_register rfl rfl rfl (by decide +kernel) ⟨Nat.le_of_ble_eq_true rfl, Nat.le_of_ble_eq_true rfl⟩) (preV_rd (ci := 5) (q0 := 0) [.int x1, .long x4] hP_r_9 hB rfl rfl) rfl rfl hl.1 rfl (lv_room (Nat.le_of_ble_eq_true rfl)) dX6_tail_39 ⟨Nat.zero_le _, Nat.zero_le _⟩) ?_
        refine lv_lstore (lv' := [(6, .long r_9), (0, .ref hmo), (1, .int x1), (2, .long x2), (4, .long x4)]) hx hb dX6_tail_42 hl (by decide) rfl (fun ls hl => ?_)
        refine lv_iconst (v := (0 : Int32)) hx hb dX6_tail_44 (by decide) ?_
        refine lv_istore (lv' := [(8, .int (0 : Int32)), (6, .long r_9), (0, .ref hmo), (1, .int x1), (2, .long x2), (4, .long x4)]) hx hb dX6_tail_45 hl (by decide) rfl (fun ls hl => ?_)
        refine wX6_tail_L47 E0 N mC mW mP mE mI mO x1 x2 hP _ (fun x6_15 ls hl hf => ?_) N _ _ _ (lv_sub hl [2, 3, 4, 1, 0] rfl) hf
        refine lv_lload hx hb dX6_tail_73 (lv_at hl 3 rfl) ?_
        refine lv_aload_n hx hb dX6_tail_75 rfl (lv_at hl 0 rfl) ?_
        refine lv_iload_n hx hb dX6_tail_76 rfl (lv_at hl 1 rfl) ?_
        refine lv_lload_n hx hb dX6_tail_77 rfl (lv_at hl 2 rfl) ?_
        obtain ⟨r_16, h_17, hf⟩ := bind_some hf
        have hP_r_16 : va_P D vwCl [(hmo, .inr (5, [.int mC, .ref hmW, .ref hmP, .ref hmS, .ref hmE, .ref hmI, .ref hmO, .ref hmT, .int mN, .ref hmK, .ref hmF, .ref hmH, .ref hmM, .ref hmD, .ref hmR, .ref hmB])), (hmW, .inl (cy 0, 8, .inl mW)), (hmE, .inl (cy 1, 8, .inr (.inl mE))), (hmO, .inl (cy 2, 8, .inl mO))] s.heap := hP.sub [0, 1, 3, 5] rfl
        refine cz_l (va_runV (As := [.int x1, .long x2]) (rest := [.long x6_15]) ⟨hx, hb, hml, hown, hts⟩ (ctX6_register l D cy N hmo hmW hmP hmS hmE hmI hmO hmT hmK hmF hmH hmM hmD hmR hmB mC mN mW mE mO x1 x2 r_16 h_17) (cwV 2 hts gX6_tail_X6_register rfl rfl rfl (by decide +kernel) ⟨Nat.le_of_ble_eq_true rfl, Nat.le_of_ble_eq_true rfl⟩) (preV_rd (ci := 5) (q0 := 0) [.int x1, .long x2] hP_r_16 hB rfl rfl) rfl rfl hl.1 rfl (lv_room (Nat.le_of_ble_eq_true rfl)) dX6_tail_78 ⟨Nat.zero_le _, Nat.zero_le _⟩) ?_
        refine lv_lxor hx hb dX6_tail_81 ?_
        refine lv_lstore (lv' := [(8, .long (x6_15 ^^^ r_16)), (0, .ref hmo), (1, .int x1), (2, .long x2), (6, .long x6_15)]) hx hb dX6_tail_82 hl (by decide) rfl (fun ls hl => ?_)
        refine lv_lconst (v := (0 : Int64)) hx hb dX6_tail_84 (by decide) ?_
        refine lv_lstore (lv' := [(10, .long (0 : Int64)), (8, .long (x6_15 ^^^ r_16)), (0, .ref hmo), (1, .int x1), (2, .long x2), (6, .long x6_15)]) hx hb dX6_tail_85 hl (by decide) rfl (fun ls hl => ?_)
        refine lv_aload_n hx hb dX6_tail_87 rfl (lv_at hl 2 rfl) ?_
        refine va_get (D := D) (ci := 5) (v := .ref hmW) (C := RX6) (T := TX6) (N := 16) hx hb hts inX6_tail_X6 hown hK hP 0 rfl rfl 1 (by decide) (hts _ mX6_tail_1) (fun _ h9 => h9) rfl dX6_tail_88 ?_
        refine lv_iload_n hx hb dX6_tail_91 rfl (lv_at hl 3 rfl) ?_
        obtain ⟨b_18, hf⟩ := ite_n hf
        refine va_iald hx hb hK hP 1 0 rfl rfl b_18 dX6_tail_92 ?_
        refine lv_bipush (v := (8 : Int32)) hx hb dX6_tail_93 (by decide) ?_
        refine lv_isub hx hb dX6_tail_95 ?_
        refine lv_istore (lv' := [(12, .int ((mW x1.toNatClampNeg) - (8 : Int32))), (10, .long (0 : Int64)), (8, .long (x6_15 ^^^ r_16)), (0, .ref hmo), (1, .int x1), (2, .long x2), (6, .long x6_15)]) hx hb dX6_tail_96 hl (by decide) rfl (fun ls hl => ?_)
        refine wX6_tail_L98 E0 N mC mW mP mE mI mO x1 (x6_15 ^^^ r_16) hP _ (fun x10_24 ls hl hf => ?_) N _ _ _ (lv_sub hl [3, 4, 2, 1, 0] rfl) hf
        refine lv_lload hx hb dX6_tail_149 (lv_at hl 0 rfl) ?_
        exact W.lret (v := x10_24) hx hb hr (fun t ht hW => ⟨_, rfl, Option.some.inj hf, ht⟩) (fun _ h => absurd h List.not_mem_nil) dX6_tail_151
      · have hf := ite_f hf c_8
        refine lv_ldc2 (v := (-1 : Int64)) hx hb hown (hts _ mX6_tail_0) dX6_tail_31 ?_
        exact W.lret (v := (-1 : Int64)) hx hb hr (fun t ht hW => ⟨_, rfl, Option.some.inj hf, ht⟩) (fun _ h => absurd h List.not_mem_nil) dX6_tail_34
/-! SumFormsModel.zeros(IJJ)J -/
abbrev rX6_zeros : Room := { frames := 4, cells := 0, slots := 0, locals := 113 }
theorem mX6_zeros_0 : Cond.constantLong RX6 91 (-1) ∈ wsX6_zeros := by decide +kernel
abbrev GX6_zeros (p : Program) (l : Launch) (e : Env) (s : State) (m : MethodId) (args : Array Value) (below : List Frame) (meth : Method) (c : Code) (r0 : Int64) (fr : JFrame) : Prop := W p l e (headSpec wsX6_zeros rX6_zeros).room s m args below meth c s.heap [] 0 0 (MQ below (vp_Sl (fun r => r = r0)) args s 0 0 (fun _ => False)) fr
def fX6_zeros (N : Nat) (mC : Int32) (mW : Nat → Int32) (mP : Nat → Int64) (mE : Nat → Int64) (mO : Nat → Int32) (x1 : Int32) (x2 : Int64) (x4 : Int64) : Option (Int64) := ((fX6_isSum N mC mW x1 x2).bind (fun r_1 => (if r_1 = 0 then (some (-1 : Int64)) else ((fX6_isFar N x4).bind (fun r_4 => (if r_4 = 0 then (some (-1 : Int64)) else ((fX6_register N mW mE mO x1 x2).bind (fun r_7 => ((fX6_moved N mW mP x1 r_7 x4).bind (fun r_9 => ((fX6_told N mW mE mO x1 r_9).bind (fun r_11 => (some r_11)))))))))))))
set_option maxHeartbeats 4000000 in
set_option maxRecDepth 100000 in
theorem ctX6_zeros (l : Launch) (D : va_G) (cy : Nat → ClassId) (N : Nat) (hmo hmW hmP hmS hmE hmI hmO hmT hmK hmF hmH hmM hmD hmR hmB : Nat) (mC : Int32) (mN : Int32) (mW : Nat → Int32) (mP : Nat → Int64) (mE : Nat → Int64) (mO : Nat → Int32) (x1 : Int32) (x2 : Int64) (x4 : Int64) (r0 : Int64) (hf : fX6_zeros N mC mW mP mE mO x1 x2 x4 = some r0) : Met l yX6_zeros wsX6_zeros rX6_zeros (va_Pc [.ref hmo, .int x1, .long x2, .long x4] (Rd D cy [(hmo, .inr (5, [.int mC, .ref hmW, .ref hmP, .ref hmS, .ref hmE, .ref hmI, .ref hmO, .ref hmT, .int mN, .ref hmK, .ref hmF, .ref hmH, .ref hmM, .ref hmD, .ref hmR, .ref hmB])), (hmW, .inl (cy 0, 8, .inl mW)), (hmP, .inl (cy 1, 8, .inr (.inl mP))), (hmE, .inl (cy 1, 8, .inr (.inl mE))), (hmO, .inl (cy 2, 8, .inl mO))])) (vp_Sl (fun r => r = r0)) 0 0 (fun _ => False) := by
  refine Met.ofW (cc := cX6_zeros) (maxL := 6) (ret := (some .long)) (by decide) rfl ?_
  intro p e s m args below meth c s₁ B hml hv
  obtain ⟨rfl, hP, hB⟩ := hv
  have hx := B.exec
  have hb := B.bytes
  have hr := B.returns
  have hts := atoms_spec (ws := wsX6_zeros) B.pre
  have hown : s.vm.findClass RX6 = some m.cls := findClass_of_methodNamed B.named
  have hlocks := B.notSynchronized
  have hK := hB.1
  have hN := hB.2
  have hl := lv_entry ([.ref hmo, .int x1, .long x2, .long x4]) (n := 6) (Nat.le_of_ble_eq_true rfl)
  rw [lg_entry_eq]
  generalize (lg_sl ([.ref hmo, .int x1, .long x2, .long x4]) ++ List.replicate (6 - (lg_sl ([.ref hmo, .int x1, .long x2, .long x4])).length) Slot.unset).toArray = ls at hl ⊢
  have hl : lv_has ls 6 [(0, .ref hmo), (1, .int x1), (2, .long x2), (4, .long x4)] := hl
  have E0 : En p m c cX6_zeros 6 s ([.ref hmo, .int x1, .long x2, .long x4] : List Value).toArray wsX6_zeros RX6 meth (some .long) D cy := ⟨⟨hx, hb, hml, hown, hts⟩, hr, hlocks, hB⟩
  unfold fX6_zeros at hf
  refine lv_aload_n hx hb dX6_zeros_0 rfl (lv_at hl 0 rfl) ?_
  refine lv_iload_n hx hb dX6_zeros_1 rfl (lv_at hl 1 rfl) ?_
  refine lv_lload_n hx hb dX6_zeros_2 rfl (lv_at hl 2 rfl) ?_
  obtain ⟨r_1, h_2, hf⟩ := bind_some hf
  have hP_r_1 : va_P D vwCl [(hmo, .inr (5, [.int mC, .ref hmW, .ref hmP, .ref hmS, .ref hmE, .ref hmI, .ref hmO, .ref hmT, .int mN, .ref hmK, .ref hmF, .ref hmH, .ref hmM, .ref hmD, .ref hmR, .ref hmB])), (hmW, .inl (cy 0, 8, .inl mW))] s.heap := hP.sub [0, 1] rfl
  refine cz_i (va_runV (As := [.int x1, .long x2]) (rest := []) ⟨hx, hb, hml, hown, hts⟩ (ctX6_isSum l D cy N hmo hmW hmP hmS hmE hmI hmO hmT hmK hmF hmH hmM hmD hmR hmB mC mN mW x1 x2 r_1 h_2) (cwV 2 hts gX6_zeros_X6_isSum rfl rfl rfl (by decide +kernel) ⟨Nat.le_of_ble_eq_true rfl, Nat.le_of_ble_eq_true rfl⟩) (preV_rd (ci := 5) (q0 := 0) [.int x1, .long x2] hP_r_1 hB rfl rfl) rfl rfl hl.1 rfl (lv_room (Nat.le_of_ble_eq_true rfl)) dX6_zeros_3 ⟨Nat.zero_le _, Nat.zero_le _⟩) ?_
  refine lv_if_eq (tgt := 38) hx hb dX6_zeros_6 (by decide) (fun c_3 => ?_) (fun c_3 => ?_)
  · have hf := ite_t hf c_3
    refine lv_ldc2 (v := (-1 : Int64)) hx hb hown (hts _ mX6_zeros_0) dX6_zeros_38 ?_
    exact W.lret (v := (-1 : Int64)) hx hb hr (fun t ht hW => ⟨_, rfl, Option.some.inj hf, ht⟩) (fun _ h => absurd h List.not_mem_nil) dX6_zeros_41
  · have hf := ite_f hf c_3
    refine lv_lload hx hb dX6_zeros_9 (lv_at hl 3 rfl) ?_
    obtain ⟨r_4, h_5, hf⟩ := bind_some hf
    have hP_r_4 : va_P D vwCl [] s.heap := hP.sub [] rfl
    refine cz_i (va_runS (As := [.long x4]) (rest := []) ⟨hx, hb, hml, hown, hts⟩ (ctX6_isFar l D cy N   x4 r_4 h_5) (va_cwS 1 hts gX6_zeros_X6_isFar rfl rfl rfl (by decide +kernel) ⟨Nat.le_of_ble_eq_true rfl, Nat.le_of_ble_eq_true rfl⟩) (preS_rd [.long x4] hP_r_4 hB) rfl rfl hl.1 rfl (lv_room (Nat.le_of_ble_eq_true rfl)) dX6_zeros_11 ⟨Nat.zero_le _, Nat.zero_le _⟩) ?_
    refine lv_if_eq (tgt := 38) hx hb dX6_zeros_14 (by decide) (fun c_6 => ?_) (fun c_6 => ?_)
    · have hf := ite_t hf c_6
      refine lv_ldc2 (v := (-1 : Int64)) hx hb hown (hts _ mX6_zeros_0) dX6_zeros_38 ?_
      exact W.lret (v := (-1 : Int64)) hx hb hr (fun t ht hW => ⟨_, rfl, Option.some.inj hf, ht⟩) (fun _ h => absurd h List.not_mem_nil) dX6_zeros_41
    · have hf := ite_f hf c_6
      refine lv_aload_n hx hb dX6_zeros_17 rfl (lv_at hl 0 rfl) ?_
      refine lv_iload_n hx hb dX6_zeros_18 rfl (lv_at hl 1 rfl) ?_
      refine lv_aload_n hx hb dX6_zeros_19 rfl (lv_at hl 0 rfl) ?_
      refine lv_iload_n hx hb dX6_zeros_20 rfl (lv_at hl 1 rfl) ?_
      refine lv_aload_n hx hb dX6_zeros_21 rfl (lv_at hl 0 rfl) ?_
      refine lv_iload_n hx hb dX6_zeros_22 rfl (lv_at hl 1 rfl) ?_
      refine lv_lload_n hx hb dX6_zeros_23 rfl (lv_at hl 2 rfl) ?_
      obtain ⟨r_7, h_8, hf⟩ := bind_some hf
      have hP_r_7 : va_P D vwCl [(hmo, .inr (5, [.int mC, .ref hmW, .ref hmP, .ref hmS, .ref hmE, .ref hmI, .ref hmO, .ref hmT, .int mN, .ref hmK, .ref hmF, .ref hmH, .ref hmM, .ref hmD, .ref hmR, .ref hmB])), (hmW, .inl (cy 0, 8, .inl mW)), (hmE, .inl (cy 1, 8, .inr (.inl mE))), (hmO, .inl (cy 2, 8, .inl mO))] s.heap := hP.sub [0, 1, 3, 4] rfl
      refine cz_l (va_runV (As := [.int x1, .long x2]) (rest := [.int x1, .ref hmo, .int x1, .ref hmo]) ⟨hx, hb, hml, hown, hts⟩ (ctX6_register l D cy N hmo hmW hmP hmS hmE hmI hmO hmT hmK hmF hmH hmM hmD hmR hmB mC mN mW mE mO x1 x2 r_7 h_8) (cwV 2 hts gX6_zeros_X6_register rfl rfl rfl (by decide +kernel) ⟨Nat.le_of_ble_eq_true rfl, Nat.le_of_ble_eq_true rfl⟩) (preV_rd (ci := 5) (q0 := 0) [.int x1, .long x2] hP_r_7 hB rfl rfl) rfl rfl hl.1 rfl (lv_room (Nat.le_of_ble_eq_true rfl)) dX6_zeros_24 ⟨Nat.zero_le _, Nat.zero_le _⟩) ?_
      refine lv_lload hx hb dX6_zeros_27 (lv_at hl 3 rfl) ?_
      obtain ⟨r_9, h_10, hf⟩ := bind_some hf
      have hP_r_9 : va_P D vwCl [(hmo, .inr (5, [.int mC, .ref hmW, .ref hmP, .ref hmS, .ref hmE, .ref hmI, .ref hmO, .ref hmT, .int mN, .ref hmK, .ref hmF, .ref hmH, .ref hmM, .ref hmD, .ref hmR, .ref hmB])), (hmW, .inl (cy 0, 8, .inl mW)), (hmP, .inl (cy 1, 8, .inr (.inl mP)))] s.heap := hP.sub [0, 1, 2] rfl
      refine cz_l (va_runV (As := [.int x1, .long r_7, .long x4]) (rest := [.int x1, .ref hmo]) ⟨hx, hb, hml, hown, hts⟩ (ctX6_moved l D cy N hmo hmW hmP hmS hmE hmI hmO hmT hmK hmF hmH hmM hmD hmR hmB mC mN mW mP x1 r_7 x4 r_9 h_10) (cwV 3 hts gX6_zeros_X6_moved rfl rfl rfl (by decide +kernel) ⟨Nat.le_of_ble_eq_true rfl, Nat.le_of_ble_eq_true rfl⟩) (preV_rd (ci := 5) (q0 := 0) [.int x1, .long r_7, .long x4] hP_r_9 hB rfl rfl) rfl rfl hl.1 rfl (lv_room (Nat.le_of_ble_eq_true rfl)) dX6_zeros_29 ⟨Nat.zero_le _, Nat.zero_le _⟩) ?_
      obtain ⟨r_11, h_12, hf⟩ := bind_some hf
      have hP_r_11 : va_P D vwCl [(hmo, .inr (5, [.int mC, .ref hmW, .ref hmP, .ref hmS, .ref hmE, .ref hmI, .ref hmO, .ref hmT, .int mN, .ref hmK, .ref hmF, .ref hmH, .ref hmM, .ref hmD, .ref hmR, .ref hmB])), (hmW, .inl (cy 0, 8, .inl mW)), (hmE, .inl (cy 1, 8, .inr (.inl mE))), (hmO, .inl (cy 2, 8, .inl mO))] s.heap := hP.sub [0, 1, 3, 4] rfl
      refine cz_l (va_runV (As := [.int x1, .long r_9]) (rest := []) ⟨hx, hb, hml, hown, hts⟩ (ctX6_told l D cy N hmo hmW hmP hmS hmE hmI hmO hmT hmK hmF hmH hmM hmD hmR hmB mC mN mW mE mO x1 r_9 r_11 h_12) (cwV 2 hts gX6_zeros_X6_told rfl rfl rfl (by decide +kernel) ⟨Nat.le_of_ble_eq_true rfl, Nat.le_of_ble_eq_true rfl⟩) (preV_rd (ci := 5) (q0 := 0) [.int x1, .long r_9] hP_r_11 hB rfl rfl) rfl rfl hl.1 rfl (lv_room (Nat.le_of_ble_eq_true rfl)) dX6_zeros_32 ⟨Nat.zero_le _, Nat.zero_le _⟩) ?_
      refine lv_goto (tgt := 41) hx hb dX6_zeros_35 (by decide) ?_
      exact W.lret (v := r_11) hx hb hr (fun t ht hW => ⟨_, rfl, Option.some.inj hf, ht⟩) (fun _ h => absurd h List.not_mem_nil) dX6_zeros_41

/-! SumFormsModel.factor(III)J -/
abbrev rX6_factor : Room := { frames := 5, cells := 0, slots := 0, locals := 141 }
theorem mX6_factor_0 : Cond.constantLong RX6 91 (-1) ∈ wsX6_factor := by decide +kernel
theorem mX6_factor_1 : Cond.fieldLink RX6 42 "SumFormsModel" "many" "[I" ∈ wsX6_factor := by decide +kernel
theorem mX6_factor_2 : Cond.fieldLink RX6 39 "SumFormsModel" "often" "[I" ∈ wsX6_factor := by decide +kernel
theorem mX6_factor_3 : Cond.fieldLink RX6 36 "SumFormsModel" "factor" "[J" ∈ wsX6_factor := by decide +kernel
theorem inX6_factor_X6 : ∀ w ∈ u_ws RX6 TX6 16, w ∈ wsX6_factor := by decide +kernel
abbrev GX6_factor (p : Program) (l : Launch) (e : Env) (s : State) (m : MethodId) (args : Array Value) (below : List Frame) (meth : Method) (c : Code) (D : va_G) (cy : Nat → ClassId) (A : Nat → Prop) (hmo : Nat) (hmW : Nat) (hmP : Nat) (hmS : Nat) (hmE : Nat) (hmI : Nat) (hmO : Nat) (hmT : Nat) (hmK : Nat) (hmF : Nat) (hmH : Nat) (hmM : Nat) (hmD : Nat) (hmR : Nat) (hmB : Nat) (mC : Int32) (mN : Int32) (mW : Nat → Int32) (mP : Nat → Int64) (r0 : Int64 × (Nat → Int32) × (Nat → Int64) × (Nat → Int32) × (Nat → Int32) × (Nat → Int64)) (H : Heap) (locs : List Loc) (fr : JFrame) : Prop := W p l e (headSpec wsX6_factor rX6_factor).room s m args below meth c H locs 0 0 (MQ below (Qwl D A [(hmo, .inr (5, [.int mC, .ref hmW, .ref hmP, .ref hmS, .ref hmE, .ref hmI, .ref hmO, .ref hmT, .int mN, .ref hmK, .ref hmF, .ref hmH, .ref hmM, .ref hmD, .ref hmR, .ref hmB])), (hmW, .inl (cy 0, 8, .inl mW)), (hmP, .inl (cy 1, 8, .inr (.inl mP))), (hmK, .inl (cy 2, 8, .inl r0.2.1)), (hmF, .inl (cy 1, 264, .inr (.inl r0.2.2.1))), (hmH, .inl (cy 0, 264, .inl r0.2.2.2.1)), (hmM, .inl (cy 0, 8, .inl r0.2.2.2.2.1)), (hmD, .inl (cy 1, 8, .inr (.inl r0.2.2.2.2.2)))] r0.1) args s 0 0 A) fr
def fX6_factor (N : Nat) (mC : Int32) (mW : Nat → Int32) (mP : Nat → Int64) (mK : Nat → Int32) (mF : Nat → Int64) (mH : Nat → Int32) (mM : Nat → Int32) (mD : Nat → Int64) (x1 : Int32) (x2 : Int32) (x3 : Int32) : Option (Int64 × (Nat → Int32) × (Nat → Int64) × (Nat → Int32) × (Nat → Int32) × (Nat → Int64)) := ((fX6_isForm N mC x1).bind (fun r_1 => (if r_1 = 0 then (some ((-1 : Int64), mK, mF, mH, mM, mD)) else (if x3 < 0 then (some ((-1 : Int64), mK, mF, mH, mM, mD)) else (if x3 ≤ (1 : Int32) then ((fX6_know N mW mP mK mF mH mM mD x1).bind (fun r_6 => (if x2 < 0 then (some ((-1 : Int64), r_6.1, r_6.2.1, r_6.2.2.1, r_6.2.2.2.1, r_6.2.2.2.2)) else (if OOB x1 8 then none else (if x2 < (r_6.2.2.2.1 x1.toNatClampNeg) then (if x3 = 0 then (if OOB (((33 : Int32) * x1) + x2) 264 then none else (some ((r_6.2.1 (((33 : Int32) * x1) + x2).toNatClampNeg), r_6.1, r_6.2.1, r_6.2.2.1, r_6.2.2.2.1, r_6.2.2.2.2))) else (if OOB (((33 : Int32) * x1) + x2) 264 then none else (some ((r_6.2.2.1 (((33 : Int32) * x1) + x2).toNatClampNeg).toInt64, r_6.1, r_6.2.1, r_6.2.2.1, r_6.2.2.2.1, r_6.2.2.2.2)))) else (some ((-1 : Int64), r_6.1, r_6.2.1, r_6.2.2.1, r_6.2.2.2.1, r_6.2.2.2.2))))))) else (some ((-1 : Int64), mK, mF, mH, mM, mD)))))))
set_option maxHeartbeats 4000000 in
set_option maxRecDepth 100000 in
theorem ctX6_factor (l : Launch) (D : va_G) (cy : Nat → ClassId) (N : Nat) (hmo hmW hmP hmS hmE hmI hmO hmT hmK hmF hmH hmM hmD hmR hmB : Nat) (sz : Nat) (mC : Int32) (mN : Int32) (mW : Nat → Int32) (mP : Nat → Int64) (mK : Nat → Int32) (mF : Nat → Int64) (mH : Nat → Int32) (mM : Nat → Int32) (mD : Nat → Int64) (x1 : Int32) (x2 : Int32) (x3 : Int32) (r0 : Int64 × (Nat → Int32) × (Nat → Int64) × (Nat → Int32) × (Nat → Int32) × (Nat → Int64)) (hf : fX6_factor N mC mW mP mK mF mH mM mD x1 x2 x3 = some r0) : Met l yX6_factor wsX6_factor rX6_factor (va_Pc [.ref hmo, .int x1, .int x2, .int x3] (Wr D cy [(hmo, .inr (5, [.int mC, .ref hmW, .ref hmP, .ref hmS, .ref hmE, .ref hmI, .ref hmO, .ref hmT, .int mN, .ref hmK, .ref hmF, .ref hmH, .ref hmM, .ref hmD, .ref hmR, .ref hmB])), (hmW, .inl (cy 0, 8, .inl mW)), (hmP, .inl (cy 1, 8, .inr (.inl mP))), (hmK, .inl (cy 2, 8, .inl mK)), (hmF, .inl (cy 1, 264, .inr (.inl mF))), (hmH, .inl (cy 0, 264, .inl mH)), (hmM, .inl (cy 0, 8, .inl mM)), (hmD, .inl (cy 1, 8, .inr (.inl mD)))] sz)) (Qwl D (va_A [(hmo, .inr (5, [.int mC, .ref hmW, .ref hmP, .ref hmS, .ref hmE, .ref hmI, .ref hmO, .ref hmT, .int mN, .ref hmK, .ref hmF, .ref hmH, .ref hmM, .ref hmD, .ref hmR, .ref hmB])), (hmW, .inl (cy 0, 8, .inl mW)), (hmP, .inl (cy 1, 8, .inr (.inl mP))), (hmK, .inl (cy 2, 8, .inl mK)), (hmF, .inl (cy 1, 264, .inr (.inl mF))), (hmH, .inl (cy 0, 264, .inl mH)), (hmM, .inl (cy 0, 8, .inl mM)), (hmD, .inl (cy 1, 8, .inr (.inl mD)))] sz) [(hmo, .inr (5, [.int mC, .ref hmW, .ref hmP, .ref hmS, .ref hmE, .ref hmI, .ref hmO, .ref hmT, .int mN, .ref hmK, .ref hmF, .ref hmH, .ref hmM, .ref hmD, .ref hmR, .ref hmB])), (hmW, .inl (cy 0, 8, .inl mW)), (hmP, .inl (cy 1, 8, .inr (.inl mP))), (hmK, .inl (cy 2, 8, .inl r0.2.1)), (hmF, .inl (cy 1, 264, .inr (.inl r0.2.2.1))), (hmH, .inl (cy 0, 264, .inl r0.2.2.2.1)), (hmM, .inl (cy 0, 8, .inl r0.2.2.2.2.1)), (hmD, .inl (cy 1, 8, .inr (.inl r0.2.2.2.2.2)))] r0.1) 0 0 (va_A [(hmo, .inr (5, [.int mC, .ref hmW, .ref hmP, .ref hmS, .ref hmE, .ref hmI, .ref hmO, .ref hmT, .int mN, .ref hmK, .ref hmF, .ref hmH, .ref hmM, .ref hmD, .ref hmR, .ref hmB])), (hmW, .inl (cy 0, 8, .inl mW)), (hmP, .inl (cy 1, 8, .inr (.inl mP))), (hmK, .inl (cy 2, 8, .inl mK)), (hmF, .inl (cy 1, 264, .inr (.inl mF))), (hmH, .inl (cy 0, 264, .inl mH)), (hmM, .inl (cy 0, 8, .inl mM)), (hmD, .inl (cy 1, 8, .inr (.inl mD)))] sz) := by
  refine Met.ofW (cc := cX6_factor) (maxL := 4) (ret := (some .long)) (by decide) rfl ?_
  intro p e s m args below meth c s₁ B hml hv
  obtain ⟨rfl, hsz, hP, hD0, hB⟩ := hv
  have hx := B.exec
  have hb := B.bytes
  have hr := B.returns
  have hts := atoms_spec (ws := wsX6_factor) B.pre
  have hown : s.vm.findClass RX6 = some m.cls := findClass_of_methodNamed B.named
  have hlocks := B.notSynchronized
  have hK := hB.1
  have hN := hB.2
  subst hsz
  have hD := hD0.self (sz := s.heap.size)
  have hA : ∀ q : Nat, s.heap.size ≤ q → va_A [(hmo, .inr (5, [.int mC, .ref hmW, .ref hmP, .ref hmS, .ref hmE, .ref hmI, .ref hmO, .ref hmT, .int mN, .ref hmK, .ref hmF, .ref hmH, .ref hmM, .ref hmD, .ref hmR, .ref hmB])), (hmW, .inl (cy 0, 8, .inl mW)), (hmP, .inl (cy 1, 8, .inr (.inl mP))), (hmK, .inl (cy 2, 8, .inl mK)), (hmF, .inl (cy 1, 264, .inr (.inl mF))), (hmH, .inl (cy 0, 264, .inl mH)), (hmM, .inl (cy 0, 8, .inl mM)), (hmD, .inl (cy 1, 8, .inr (.inl mD)))] s.heap.size q := fun q h => Or.inr h
  generalize va_A [(hmo, .inr (5, [.int mC, .ref hmW, .ref hmP, .ref hmS, .ref hmE, .ref hmI, .ref hmO, .ref hmT, .int mN, .ref hmK, .ref hmF, .ref hmH, .ref hmM, .ref hmD, .ref hmR, .ref hmB])), (hmW, .inl (cy 0, 8, .inl mW)), (hmP, .inl (cy 1, 8, .inr (.inl mP))), (hmK, .inl (cy 2, 8, .inl mK)), (hmF, .inl (cy 1, 264, .inr (.inl mF))), (hmH, .inl (cy 0, 264, .inl mH)), (hmM, .inl (cy 0, 8, .inl mM)), (hmD, .inl (cy 1, 8, .inr (.inl mD)))] s.heap.size = A at hD hA ⊢
  have hS : va_S A s.heap s.heap [] := va_S.rf
  have hl := lv_entry ([.ref hmo, .int x1, .int x2, .int x3]) (n := 4) (Nat.le_of_ble_eq_true rfl)
  rw [lg_entry_eq]
  generalize (lg_sl ([.ref hmo, .int x1, .int x2, .int x3]) ++ List.replicate (4 - (lg_sl ([.ref hmo, .int x1, .int x2, .int x3])).length) Slot.unset).toArray = ls at hl ⊢
  have hl : lv_has ls 4 [(0, .ref hmo), (1, .int x1), (2, .int x2), (3, .int x3)] := hl
  have E0 : En p m c cX6_factor 4 s ([.ref hmo, .int x1, .int x2, .int x3] : List Value).toArray wsX6_factor RX6 meth (some .long) D cy := ⟨⟨hx, hb, hml, hown, hts⟩, hr, hlocks, hB⟩
  unfold fX6_factor at hf
  refine lv_aload_n hx hb dX6_factor_0 rfl (lv_at hl 0 rfl) ?_
  refine lv_iload_n hx hb dX6_factor_1 rfl (lv_at hl 1 rfl) ?_
  obtain ⟨r_1, h_2, hf⟩ := bind_some hf
  have hP_r_1 : va_P D vwCl [(hmo, .inr (5, [.int mC, .ref hmW, .ref hmP, .ref hmS, .ref hmE, .ref hmI, .ref hmO, .ref hmT, .int mN, .ref hmK, .ref hmF, .ref hmH, .ref hmM, .ref hmD, .ref hmR, .ref hmB]))] s.heap := hP.sub [0] rfl
  refine cz_i (va_runV (As := [.int x1]) (rest := []) ⟨hx, hb, hml, hown, hts⟩ (ctX6_isForm l D cy N hmo hmW hmP hmS hmE hmI hmO hmT hmK hmF hmH hmM hmD hmR hmB mC mN x1 r_1 h_2) (cwV 1 hts gX6_factor_X6_isForm rfl rfl rfl (by decide +kernel) ⟨Nat.le_of_ble_eq_true rfl, Nat.le_of_ble_eq_true rfl⟩) (preV_rd (ci := 5) (q0 := 0) [.int x1] hP_r_1 hB rfl rfl) rfl rfl hl.1 rfl (lv_room (Nat.le_of_ble_eq_true rfl)) dX6_factor_2 ⟨Nat.zero_le _, Nat.zero_le _⟩) ?_
  refine lv_if_eq (tgt := 17) hx hb dX6_factor_5 (by decide) (fun c_3 => ?_) (fun c_3 => ?_)
  · have hf := ite_t hf c_3
    refine lv_ldc2 (v := (-1 : Int64)) hx hb hown (hts _ mX6_factor_0) dX6_factor_17 ?_
    cases hf
    exact W.lret (v := (-1 : Int64)) hx hb hr (fun t ht hW => ⟨⟨_, (), rfl, rfl, by rw [ht]; exact hP, hD⟩, hS.F ht⟩) hS.2.2 dX6_factor_20
  · have hf := ite_f hf c_3
    refine lv_iload_n hx hb dX6_factor_8 rfl (lv_at hl 3 rfl) ?_
    refine lv_if_lt (tgt := 17) hx hb dX6_factor_9 (by decide) (fun c_4 => ?_) (fun c_4 => ?_)
    · have hf := ite_t hf c_4
      refine lv_ldc2 (v := (-1 : Int64)) hx hb hown (hts _ mX6_factor_0) dX6_factor_17 ?_
      cases hf
      exact W.lret (v := (-1 : Int64)) hx hb hr (fun t ht hW => ⟨⟨_, (), rfl, rfl, by rw [ht]; exact hP, hD⟩, hS.F ht⟩) hS.2.2 dX6_factor_20
    · have hf := ite_f hf c_4
      refine lv_iload_n hx hb dX6_factor_12 rfl (lv_at hl 3 rfl) ?_
      refine lv_iconst (v := (1 : Int32)) hx hb dX6_factor_13 (by decide) ?_
      refine lv_icmp_le (tgt := 21) hx hb dX6_factor_14 (by decide) (fun c_5 => ?_) (fun c_5 => ?_)
      · have hf := ite_t hf c_5
        refine lv_aload_n hx hb dX6_factor_21 rfl (lv_at hl 0 rfl) ?_
        refine lv_iload_n hx hb dX6_factor_22 rfl (lv_at hl 1 rfl) ?_
        obtain ⟨r_6, h_7, hf⟩ := bind_some hf
        have hP_r_6 : va_P D vwCl [(hmo, .inr (5, [.int mC, .ref hmW, .ref hmP, .ref hmS, .ref hmE, .ref hmI, .ref hmO, .ref hmT, .int mN, .ref hmK, .ref hmF, .ref hmH, .ref hmM, .ref hmD, .ref hmR, .ref hmB])), (hmW, .inl (cy 0, 8, .inl mW)), (hmP, .inl (cy 1, 8, .inr (.inl mP))), (hmK, .inl (cy 2, 8, .inl mK)), (hmF, .inl (cy 1, 264, .inr (.inl mF))), (hmH, .inl (cy 0, 264, .inl mH)), (hmM, .inl (cy 0, 8, .inl mM)), (hmD, .inl (cy 1, 8, .inr (.inl mD)))] s.heap := hP.sub [0, 1, 2, 3, 4, 5, 6, 7] rfl
        have hD_r_6 : va_D A [(hmo, .inr (5, [.int mC, .ref hmW, .ref hmP, .ref hmS, .ref hmE, .ref hmI, .ref hmO, .ref hmT, .int mN, .ref hmK, .ref hmF, .ref hmH, .ref hmM, .ref hmD, .ref hmR, .ref hmB])), (hmW, .inl (cy 0, 8, .inl mW)), (hmP, .inl (cy 1, 8, .inr (.inl mP))), (hmK, .inl (cy 2, 8, .inl mK)), (hmF, .inl (cy 1, 264, .inr (.inl mF))), (hmH, .inl (cy 0, 264, .inl mH)), (hmM, .inl (cy 0, 8, .inl mM)), (hmD, .inl (cy 1, 8, .inr (.inl mD)))] := hD.sub [0, 1, 2, 3, 4, 5, 6, 7] (by decide) rfl
        refine cj_v (wc := [(hmo, .inr (5, [.int mC, .ref hmW, .ref hmP, .ref hmS, .ref hmE, .ref hmI, .ref hmO, .ref hmT, .int mN, .ref hmK, .ref hmF, .ref hmH, .ref hmM, .ref hmD, .ref hmR, .ref hmB])), (hmW, .inl (cy 0, 8, .inl mW)), (hmP, .inl (cy 1, 8, .inr (.inl mP))), (hmK, .inl (cy 2, 8, .inl mK)), (hmF, .inl (cy 1, 264, .inr (.inl mF))), (hmH, .inl (cy 0, 264, .inl mH)), (hmM, .inl (cy 0, 8, .inl mM)), (hmD, .inl (cy 1, 8, .inr (.inl mD)))]) (wr := []) (w1 := [(hmo, .inr (5, [.int mC, .ref hmW, .ref hmP, .ref hmS, .ref hmE, .ref hmI, .ref hmO, .ref hmT, .int mN, .ref hmK, .ref hmF, .ref hmH, .ref hmM, .ref hmD, .ref hmR, .ref hmB])), (hmW, .inl (cy 0, 8, .inl mW)), (hmP, .inl (cy 1, 8, .inr (.inl mP))), (hmK, .inl (cy 2, 8, .inl r_6.1)), (hmF, .inl (cy 1, 264, .inr (.inl r_6.2.1))), (hmH, .inl (cy 0, 264, .inl r_6.2.2.1)), (hmM, .inl (cy 0, 8, .inl r_6.2.2.2.1)), (hmD, .inl (cy 1, 8, .inr (.inl r_6.2.2.2.2)))]) [0, 1, 2, 3, 4, 5, 6, 7] [] (va_runV (As := [.int x1]) (rest := []) ⟨hx, hb, hml, hown, hts⟩ (ctX6_know l D cy N hmo hmW hmP hmS hmE hmI hmO hmT hmK hmF hmH hmM hmD hmR hmB s.heap.size mC mN mW mP mK mF mH mM mD x1 r_6 h_7) (cwV 1 hts gX6_factor_X6_know rfl rfl rfl (by decide +kernel) ⟨Nat.le_of_ble_eq_true rfl, Nat.le_of_ble_eq_true rfl⟩) (preV_wr (ci := 5) (q0 := 0) [.int x1] hP_r_6 hD_r_6 hB rfl rfl) rfl rfl hl.1 rfl (lv_room (Nat.le_of_ble_eq_true rfl)) dX6_factor_23 ⟨Nat.zero_le _, Nat.zero_le _⟩) hP hD hS hA rfl rfl (by decide) (by decide) (fun H8 locs9 hP hD hS => ?_)
        have hP : va_P D vwCl [(hmo, .inr (5, [.int mC, .ref hmW, .ref hmP, .ref hmS, .ref hmE, .ref hmI, .ref hmO, .ref hmT, .int mN, .ref hmK, .ref hmF, .ref hmH, .ref hmM, .ref hmD, .ref hmR, .ref hmB])), (hmW, .inl (cy 0, 8, .inl mW)), (hmP, .inl (cy 1, 8, .inr (.inl mP))), (hmK, .inl (cy 2, 8, .inl r_6.1)), (hmF, .inl (cy 1, 264, .inr (.inl r_6.2.1))), (hmH, .inl (cy 0, 264, .inl r_6.2.2.1)), (hmM, .inl (cy 0, 8, .inl r_6.2.2.2.1)), (hmD, .inl (cy 1, 8, .inr (.inl r_6.2.2.2.2)))] H8 := hP.sub [0, 1, 2, 3, 4, 5, 6, 7] rfl
        have hD : va_D A [(hmo, .inr (5, [.int mC, .ref hmW, .ref hmP, .ref hmS, .ref hmE, .ref hmI, .ref hmO, .ref hmT, .int mN, .ref hmK, .ref hmF, .ref hmH, .ref hmM, .ref hmD, .ref hmR, .ref hmB])), (hmW, .inl (cy 0, 8, .inl mW)), (hmP, .inl (cy 1, 8, .inr (.inl mP))), (hmK, .inl (cy 2, 8, .inl r_6.1)), (hmF, .inl (cy 1, 264, .inr (.inl r_6.2.1))), (hmH, .inl (cy 0, 264, .inl r_6.2.2.1)), (hmM, .inl (cy 0, 8, .inl r_6.2.2.2.1)), (hmD, .inl (cy 1, 8, .inr (.inl r_6.2.2.2.2)))] := hD.sub [0, 1, 2, 3, 4, 5, 6, 7] (by decide) rfl
        refine lv_iload_n hx hb dX6_factor_26 rfl (lv_at hl 2 rfl) ?_
        refine lv_if_lt (tgt := 40) hx hb dX6_factor_27 (by decide) (fun c_10 => ?_) (fun c_10 => ?_)
        · have hf := ite_t hf c_10
          refine lv_ldc2 (v := (-1 : Int64)) hx hb hown (hts _ mX6_factor_0) dX6_factor_40 ?_
          cases hf
          exact W.lret (v := (-1 : Int64)) hx hb hr (fun t ht hW => ⟨⟨_, (), rfl, rfl, by rw [ht]; exact hP, hD⟩, hS.F ht⟩) hS.2.2 dX6_factor_43
        · have hf := ite_f hf c_10
          refine lv_iload_n hx hb dX6_factor_30 rfl (lv_at hl 2 rfl) ?_
          refine lv_aload_n hx hb dX6_factor_31 rfl (lv_at hl 0 rfl) ?_
          refine va_get (D := D) (ci := 5) (v := .ref hmM) (C := RX6) (T := TX6) (N := 16) hx hb hts inX6_factor_X6 hown hK hP 0 rfl rfl 12 (by decide) (hts _ mX6_factor_1) (fun _ h9 => h9) rfl dX6_factor_32 ?_
          refine lv_iload_n hx hb dX6_factor_35 rfl (lv_at hl 1 rfl) ?_
          obtain ⟨b_11, hf⟩ := ite_n hf
          refine va_iald hx hb hK hP 6 0 rfl rfl b_11 dX6_factor_36 ?_
          refine lv_icmp_lt (tgt := 44) hx hb dX6_factor_37 (by decide) (fun c_12 => ?_) (fun c_12 => ?_)
          · have hf := ite_t hf c_12
            refine lv_iload_n hx hb dX6_factor_44 rfl (lv_at hl 3 rfl) ?_
            refine lv_if_ne (tgt := 62) hx hb dX6_factor_45 (by decide) (fun c_13 => ?_) (fun c_13 => ?_)
            · have hf := ite_f hf c_13
              refine lv_aload_n hx hb dX6_factor_62 rfl (lv_at hl 0 rfl) ?_
              refine va_get (D := D) (ci := 5) (v := .ref hmH) (C := RX6) (T := TX6) (N := 16) hx hb hts inX6_factor_X6 hown hK hP 0 rfl rfl 11 (by decide) (hts _ mX6_factor_2) (fun _ h9 => h9) rfl dX6_factor_63 ?_
              refine lv_bipush (v := (33 : Int32)) hx hb dX6_factor_66 (by decide) ?_
              refine lv_iload_n hx hb dX6_factor_68 rfl (lv_at hl 1 rfl) ?_
              refine lv_imul hx hb dX6_factor_69 ?_
              refine lv_iload_n hx hb dX6_factor_70 rfl (lv_at hl 2 rfl) ?_
              refine lv_iadd hx hb dX6_factor_71 ?_
              obtain ⟨b_14, hf⟩ := ite_n hf
              refine va_iald hx hb hK hP 5 0 rfl rfl b_14 dX6_factor_72 ?_
              refine lv_i2l (v := (r_6.2.2.1 (((33 : Int32) * x1) + x2).toNatClampNeg).toInt64) hx hb dX6_factor_73 rfl ?_
              cases hf
              exact W.lret (v := (r_6.2.2.1 (((33 : Int32) * x1) + x2).toNatClampNeg).toInt64) hx hb hr (fun t ht hW => ⟨⟨_, (), rfl, rfl, by rw [ht]; exact hP, hD⟩, hS.F ht⟩) hS.2.2 dX6_factor_74
            · have hf := ite_t hf c_13
              refine lv_aload_n hx hb dX6_factor_48 rfl (lv_at hl 0 rfl) ?_
              refine va_get (D := D) (ci := 5) (v := .ref hmF) (C := RX6) (T := TX6) (N := 16) hx hb hts inX6_factor_X6 hown hK hP 0 rfl rfl 10 (by decide) (hts _ mX6_factor_3) (fun _ h9 => h9) rfl dX6_factor_49 ?_
              refine lv_bipush (v := (33 : Int32)) hx hb dX6_factor_52 (by decide) ?_
              refine lv_iload_n hx hb dX6_factor_54 rfl (lv_at hl 1 rfl) ?_
              refine lv_imul hx hb dX6_factor_55 ?_
              refine lv_iload_n hx hb dX6_factor_56 rfl (lv_at hl 2 rfl) ?_
              refine lv_iadd hx hb dX6_factor_57 ?_
              obtain ⟨b_15, hf⟩ := ite_n hf
              refine va_lald hx hb hK hP 4 1 rfl rfl b_15 dX6_factor_58 ?_
              refine lv_goto (tgt := 74) hx hb dX6_factor_59 (by decide) ?_
              cases hf
              exact W.lret (v := (r_6.2.1 (((33 : Int32) * x1) + x2).toNatClampNeg)) hx hb hr (fun t ht hW => ⟨⟨_, (), rfl, rfl, by rw [ht]; exact hP, hD⟩, hS.F ht⟩) hS.2.2 dX6_factor_74
          · have hf := ite_f hf c_12
            refine lv_ldc2 (v := (-1 : Int64)) hx hb hown (hts _ mX6_factor_0) dX6_factor_40 ?_
            cases hf
            exact W.lret (v := (-1 : Int64)) hx hb hr (fun t ht hW => ⟨⟨_, (), rfl, rfl, by rw [ht]; exact hP, hD⟩, hS.F ht⟩) hS.2.2 dX6_factor_43
      · have hf := ite_f hf c_5
        refine lv_ldc2 (v := (-1 : Int64)) hx hb hown (hts _ mX6_factor_0) dX6_factor_17 ?_
        cases hf
        exact W.lret (v := (-1 : Int64)) hx hb hr (fun t ht hW => ⟨⟨_, (), rfl, rfl, by rw [ht]; exact hP, hD⟩, hS.F ht⟩) hS.2.2 dX6_factor_20
/-! SumFormsModel.factors(I)I -/
abbrev rX6_factors : Room := { frames := 5, cells := 0, slots := 0, locals := 141 }
theorem mX6_factors_0 : Cond.fieldLink RX6 42 "SumFormsModel" "many" "[I" ∈ wsX6_factors := by decide +kernel
theorem inX6_factors_X6 : ∀ w ∈ u_ws RX6 TX6 16, w ∈ wsX6_factors := by decide +kernel
abbrev GX6_factors (p : Program) (l : Launch) (e : Env) (s : State) (m : MethodId) (args : Array Value) (below : List Frame) (meth : Method) (c : Code) (D : va_G) (cy : Nat → ClassId) (A : Nat → Prop) (hmo : Nat) (hmW : Nat) (hmP : Nat) (hmS : Nat) (hmE : Nat) (hmI : Nat) (hmO : Nat) (hmT : Nat) (hmK : Nat) (hmF : Nat) (hmH : Nat) (hmM : Nat) (hmD : Nat) (hmR : Nat) (hmB : Nat) (mC : Int32) (mN : Int32) (mW : Nat → Int32) (mP : Nat → Int64) (r0 : Int32 × (Nat → Int32) × (Nat → Int64) × (Nat → Int32) × (Nat → Int32) × (Nat → Int64)) (H : Heap) (locs : List Loc) (fr : JFrame) : Prop := W p l e (headSpec wsX6_factors rX6_factors).room s m args below meth c H locs 0 0 (MQ below (Qwi D A [(hmo, .inr (5, [.int mC, .ref hmW, .ref hmP, .ref hmS, .ref hmE, .ref hmI, .ref hmO, .ref hmT, .int mN, .ref hmK, .ref hmF, .ref hmH, .ref hmM, .ref hmD, .ref hmR, .ref hmB])), (hmW, .inl (cy 0, 8, .inl mW)), (hmP, .inl (cy 1, 8, .inr (.inl mP))), (hmK, .inl (cy 2, 8, .inl r0.2.1)), (hmF, .inl (cy 1, 264, .inr (.inl r0.2.2.1))), (hmH, .inl (cy 0, 264, .inl r0.2.2.2.1)), (hmM, .inl (cy 0, 8, .inl r0.2.2.2.2.1)), (hmD, .inl (cy 1, 8, .inr (.inl r0.2.2.2.2.2)))] r0.1) args s 0 0 A) fr
def fX6_factors (N : Nat) (mC : Int32) (mW : Nat → Int32) (mP : Nat → Int64) (mK : Nat → Int32) (mF : Nat → Int64) (mH : Nat → Int32) (mM : Nat → Int32) (mD : Nat → Int64) (x1 : Int32) : Option (Int32 × (Nat → Int32) × (Nat → Int64) × (Nat → Int32) × (Nat → Int32) × (Nat → Int64)) := ((fX6_isForm N mC x1).bind (fun r_1 => (if r_1 = 0 then (some ((-1 : Int32), mK, mF, mH, mM, mD)) else ((fX6_know N mW mP mK mF mH mM mD x1).bind (fun r_4 => (if OOB x1 8 then none else (some ((r_4.2.2.2.1 x1.toNatClampNeg), r_4.1, r_4.2.1, r_4.2.2.1, r_4.2.2.2.1, r_4.2.2.2.2))))))))
set_option maxHeartbeats 4000000 in
set_option maxRecDepth 100000 in
theorem ctX6_factors (l : Launch) (D : va_G) (cy : Nat → ClassId) (N : Nat) (hmo hmW hmP hmS hmE hmI hmO hmT hmK hmF hmH hmM hmD hmR hmB : Nat) (sz : Nat) (mC : Int32) (mN : Int32) (mW : Nat → Int32) (mP : Nat → Int64) (mK : Nat → Int32) (mF : Nat → Int64) (mH : Nat → Int32) (mM : Nat → Int32) (mD : Nat → Int64) (x1 : Int32) (r0 : Int32 × (Nat → Int32) × (Nat → Int64) × (Nat → Int32) × (Nat → Int32) × (Nat → Int64)) (hf : fX6_factors N mC mW mP mK mF mH mM mD x1 = some r0) : Met l yX6_factors wsX6_factors rX6_factors (va_Pc [.ref hmo, .int x1] (Wr D cy [(hmo, .inr (5, [.int mC, .ref hmW, .ref hmP, .ref hmS, .ref hmE, .ref hmI, .ref hmO, .ref hmT, .int mN, .ref hmK, .ref hmF, .ref hmH, .ref hmM, .ref hmD, .ref hmR, .ref hmB])), (hmW, .inl (cy 0, 8, .inl mW)), (hmP, .inl (cy 1, 8, .inr (.inl mP))), (hmK, .inl (cy 2, 8, .inl mK)), (hmF, .inl (cy 1, 264, .inr (.inl mF))), (hmH, .inl (cy 0, 264, .inl mH)), (hmM, .inl (cy 0, 8, .inl mM)), (hmD, .inl (cy 1, 8, .inr (.inl mD)))] sz)) (Qwi D (va_A [(hmo, .inr (5, [.int mC, .ref hmW, .ref hmP, .ref hmS, .ref hmE, .ref hmI, .ref hmO, .ref hmT, .int mN, .ref hmK, .ref hmF, .ref hmH, .ref hmM, .ref hmD, .ref hmR, .ref hmB])), (hmW, .inl (cy 0, 8, .inl mW)), (hmP, .inl (cy 1, 8, .inr (.inl mP))), (hmK, .inl (cy 2, 8, .inl mK)), (hmF, .inl (cy 1, 264, .inr (.inl mF))), (hmH, .inl (cy 0, 264, .inl mH)), (hmM, .inl (cy 0, 8, .inl mM)), (hmD, .inl (cy 1, 8, .inr (.inl mD)))] sz) [(hmo, .inr (5, [.int mC, .ref hmW, .ref hmP, .ref hmS, .ref hmE, .ref hmI, .ref hmO, .ref hmT, .int mN, .ref hmK, .ref hmF, .ref hmH, .ref hmM, .ref hmD, .ref hmR, .ref hmB])), (hmW, .inl (cy 0, 8, .inl mW)), (hmP, .inl (cy 1, 8, .inr (.inl mP))), (hmK, .inl (cy 2, 8, .inl r0.2.1)), (hmF, .inl (cy 1, 264, .inr (.inl r0.2.2.1))), (hmH, .inl (cy 0, 264, .inl r0.2.2.2.1)), (hmM, .inl (cy 0, 8, .inl r0.2.2.2.2.1)), (hmD, .inl (cy 1, 8, .inr (.inl r0.2.2.2.2.2)))] r0.1) 0 0 (va_A [(hmo, .inr (5, [.int mC, .ref hmW, .ref hmP, .ref hmS, .ref hmE, .ref hmI, .ref hmO, .ref hmT, .int mN, .ref hmK, .ref hmF, .ref hmH, .ref hmM, .ref hmD, .ref hmR, .ref hmB])), (hmW, .inl (cy 0, 8, .inl mW)), (hmP, .inl (cy 1, 8, .inr (.inl mP))), (hmK, .inl (cy 2, 8, .inl mK)), (hmF, .inl (cy 1, 264, .inr (.inl mF))), (hmH, .inl (cy 0, 264, .inl mH)), (hmM, .inl (cy 0, 8, .inl mM)), (hmD, .inl (cy 1, 8, .inr (.inl mD)))] sz) := by
  refine Met.ofW (cc := cX6_factors) (maxL := 2) (ret := (some .int)) (by decide) rfl ?_
  intro p e s m args below meth c s₁ B hml hv
  obtain ⟨rfl, hsz, hP, hD0, hB⟩ := hv
  have hx := B.exec
  have hb := B.bytes
  have hr := B.returns
  have hts := atoms_spec (ws := wsX6_factors) B.pre
  have hown : s.vm.findClass RX6 = some m.cls := findClass_of_methodNamed B.named
  have hlocks := B.notSynchronized
  have hK := hB.1
  have hN := hB.2
  subst hsz
  have hD := hD0.self (sz := s.heap.size)
  have hA : ∀ q : Nat, s.heap.size ≤ q → va_A [(hmo, .inr (5, [.int mC, .ref hmW, .ref hmP, .ref hmS, .ref hmE, .ref hmI, .ref hmO, .ref hmT, .int mN, .ref hmK, .ref hmF, .ref hmH, .ref hmM, .ref hmD, .ref hmR, .ref hmB])), (hmW, .inl (cy 0, 8, .inl mW)), (hmP, .inl (cy 1, 8, .inr (.inl mP))), (hmK, .inl (cy 2, 8, .inl mK)), (hmF, .inl (cy 1, 264, .inr (.inl mF))), (hmH, .inl (cy 0, 264, .inl mH)), (hmM, .inl (cy 0, 8, .inl mM)), (hmD, .inl (cy 1, 8, .inr (.inl mD)))] s.heap.size q := fun q h => Or.inr h
  generalize va_A [(hmo, .inr (5, [.int mC, .ref hmW, .ref hmP, .ref hmS, .ref hmE, .ref hmI, .ref hmO, .ref hmT, .int mN, .ref hmK, .ref hmF, .ref hmH, .ref hmM, .ref hmD, .ref hmR, .ref hmB])), (hmW, .inl (cy 0, 8, .inl mW)), (hmP, .inl (cy 1, 8, .inr (.inl mP))), (hmK, .inl (cy 2, 8, .inl mK)), (hmF, .inl (cy 1, 264, .inr (.inl mF))), (hmH, .inl (cy 0, 264, .inl mH)), (hmM, .inl (cy 0, 8, .inl mM)), (hmD, .inl (cy 1, 8, .inr (.inl mD)))] s.heap.size = A at hD hA ⊢
  have hS : va_S A s.heap s.heap [] := va_S.rf
  have hl := lv_entry ([.ref hmo, .int x1]) (n := 2) (Nat.le_of_ble_eq_true rfl)
  rw [lg_entry_eq]
  generalize (lg_sl ([.ref hmo, .int x1]) ++ List.replicate (2 - (lg_sl ([.ref hmo, .int x1])).length) Slot.unset).toArray = ls at hl ⊢
  have hl : lv_has ls 2 [(0, .ref hmo), (1, .int x1)] := hl
  have E0 : En p m c cX6_factors 2 s ([.ref hmo, .int x1] : List Value).toArray wsX6_factors RX6 meth (some .int) D cy := ⟨⟨hx, hb, hml, hown, hts⟩, hr, hlocks, hB⟩
  unfold fX6_factors at hf
  refine lv_aload_n hx hb dX6_factors_0 rfl (lv_at hl 0 rfl) ?_
  refine lv_iload_n hx hb dX6_factors_1 rfl (lv_at hl 1 rfl) ?_
  obtain ⟨r_1, h_2, hf⟩ := bind_some hf
  have hP_r_1 : va_P D vwCl [(hmo, .inr (5, [.int mC, .ref hmW, .ref hmP, .ref hmS, .ref hmE, .ref hmI, .ref hmO, .ref hmT, .int mN, .ref hmK, .ref hmF, .ref hmH, .ref hmM, .ref hmD, .ref hmR, .ref hmB]))] s.heap := hP.sub [0] rfl
  refine cz_i (va_runV (As := [.int x1]) (rest := []) ⟨hx, hb, hml, hown, hts⟩ (ctX6_isForm l D cy N hmo hmW hmP hmS hmE hmI hmO hmT hmK hmF hmH hmM hmD hmR hmB mC mN x1 r_1 h_2) (cwV 1 hts gX6_factors_X6_isForm rfl rfl rfl (by decide +kernel) ⟨Nat.le_of_ble_eq_true rfl, Nat.le_of_ble_eq_true rfl⟩) (preV_rd (ci := 5) (q0 := 0) [.int x1] hP_r_1 hB rfl rfl) rfl rfl hl.1 rfl (lv_room (Nat.le_of_ble_eq_true rfl)) dX6_factors_2 ⟨Nat.zero_le _, Nat.zero_le _⟩) ?_
  refine lv_if_ne (tgt := 10) hx hb dX6_factors_5 (by decide) (fun c_3 => ?_) (fun c_3 => ?_)
  · have hf := ite_f hf c_3
    refine lv_aload_n hx hb dX6_factors_10 rfl (lv_at hl 0 rfl) ?_
    refine lv_iload_n hx hb dX6_factors_11 rfl (lv_at hl 1 rfl) ?_
    obtain ⟨r_4, h_5, hf⟩ := bind_some hf
    have hP_r_4 : va_P D vwCl [(hmo, .inr (5, [.int mC, .ref hmW, .ref hmP, .ref hmS, .ref hmE, .ref hmI, .ref hmO, .ref hmT, .int mN, .ref hmK, .ref hmF, .ref hmH, .ref hmM, .ref hmD, .ref hmR, .ref hmB])), (hmW, .inl (cy 0, 8, .inl mW)), (hmP, .inl (cy 1, 8, .inr (.inl mP))), (hmK, .inl (cy 2, 8, .inl mK)), (hmF, .inl (cy 1, 264, .inr (.inl mF))), (hmH, .inl (cy 0, 264, .inl mH)), (hmM, .inl (cy 0, 8, .inl mM)), (hmD, .inl (cy 1, 8, .inr (.inl mD)))] s.heap := hP.sub [0, 1, 2, 3, 4, 5, 6, 7] rfl
    have hD_r_4 : va_D A [(hmo, .inr (5, [.int mC, .ref hmW, .ref hmP, .ref hmS, .ref hmE, .ref hmI, .ref hmO, .ref hmT, .int mN, .ref hmK, .ref hmF, .ref hmH, .ref hmM, .ref hmD, .ref hmR, .ref hmB])), (hmW, .inl (cy 0, 8, .inl mW)), (hmP, .inl (cy 1, 8, .inr (.inl mP))), (hmK, .inl (cy 2, 8, .inl mK)), (hmF, .inl (cy 1, 264, .inr (.inl mF))), (hmH, .inl (cy 0, 264, .inl mH)), (hmM, .inl (cy 0, 8, .inl mM)), (hmD, .inl (cy 1, 8, .inr (.inl mD)))] := hD.sub [0, 1, 2, 3, 4, 5, 6, 7] (by decide) rfl
    refine cj_v (wc := [(hmo, .inr (5, [.int mC, .ref hmW, .ref hmP, .ref hmS, .ref hmE, .ref hmI, .ref hmO, .ref hmT, .int mN, .ref hmK, .ref hmF, .ref hmH, .ref hmM, .ref hmD, .ref hmR, .ref hmB])), (hmW, .inl (cy 0, 8, .inl mW)), (hmP, .inl (cy 1, 8, .inr (.inl mP))), (hmK, .inl (cy 2, 8, .inl mK)), (hmF, .inl (cy 1, 264, .inr (.inl mF))), (hmH, .inl (cy 0, 264, .inl mH)), (hmM, .inl (cy 0, 8, .inl mM)), (hmD, .inl (cy 1, 8, .inr (.inl mD)))]) (wr := []) (w1 := [(hmo, .inr (5, [.int mC, .ref hmW, .ref hmP, .ref hmS, .ref hmE, .ref hmI, .ref hmO, .ref hmT, .int mN, .ref hmK, .ref hmF, .ref hmH, .ref hmM, .ref hmD, .ref hmR, .ref hmB])), (hmW, .inl (cy 0, 8, .inl mW)), (hmP, .inl (cy 1, 8, .inr (.inl mP))), (hmK, .inl (cy 2, 8, .inl r_4.1)), (hmF, .inl (cy 1, 264, .inr (.inl r_4.2.1))), (hmH, .inl (cy 0, 264, .inl r_4.2.2.1)), (hmM, .inl (cy 0, 8, .inl r_4.2.2.2.1)), (hmD, .inl (cy 1, 8, .inr (.inl r_4.2.2.2.2)))]) [0, 1, 2, 3, 4, 5, 6, 7] [] (va_runV (As := [.int x1]) (rest := []) ⟨hx, hb, hml, hown, hts⟩ (ctX6_know l D cy N hmo hmW hmP hmS hmE hmI hmO hmT hmK hmF hmH hmM hmD hmR hmB s.heap.size mC mN mW mP mK mF mH mM mD x1 r_4 h_5) (cwV 1 hts gX6_factors_X6_know rfl rfl rfl (by decide +kernel) ⟨Nat.le_of_ble_eq_true rfl, Nat.le_of_ble_eq_true rfl⟩) (preV_wr (ci := 5) (q0 := 0) [.int x1] hP_r_4 hD_r_4 hB rfl rfl) rfl rfl hl.1 rfl (lv_room (Nat.le_of_ble_eq_true rfl)) dX6_factors_12 ⟨Nat.zero_le _, Nat.zero_le _⟩) hP hD hS hA rfl rfl (by decide) (by decide) (fun H6 locs7 hP hD hS => ?_)
    have hP : va_P D vwCl [(hmo, .inr (5, [.int mC, .ref hmW, .ref hmP, .ref hmS, .ref hmE, .ref hmI, .ref hmO, .ref hmT, .int mN, .ref hmK, .ref hmF, .ref hmH, .ref hmM, .ref hmD, .ref hmR, .ref hmB])), (hmW, .inl (cy 0, 8, .inl mW)), (hmP, .inl (cy 1, 8, .inr (.inl mP))), (hmK, .inl (cy 2, 8, .inl r_4.1)), (hmF, .inl (cy 1, 264, .inr (.inl r_4.2.1))), (hmH, .inl (cy 0, 264, .inl r_4.2.2.1)), (hmM, .inl (cy 0, 8, .inl r_4.2.2.2.1)), (hmD, .inl (cy 1, 8, .inr (.inl r_4.2.2.2.2)))] H6 := hP.sub [0, 1, 2, 3, 4, 5, 6, 7] rfl
    have hD : va_D A [(hmo, .inr (5, [.int mC, .ref hmW, .ref hmP, .ref hmS, .ref hmE, .ref hmI, .ref hmO, .ref hmT, .int mN, .ref hmK, .ref hmF, .ref hmH, .ref hmM, .ref hmD, .ref hmR, .ref hmB])), (hmW, .inl (cy 0, 8, .inl mW)), (hmP, .inl (cy 1, 8, .inr (.inl mP))), (hmK, .inl (cy 2, 8, .inl r_4.1)), (hmF, .inl (cy 1, 264, .inr (.inl r_4.2.1))), (hmH, .inl (cy 0, 264, .inl r_4.2.2.1)), (hmM, .inl (cy 0, 8, .inl r_4.2.2.2.1)), (hmD, .inl (cy 1, 8, .inr (.inl r_4.2.2.2.2)))] := hD.sub [0, 1, 2, 3, 4, 5, 6, 7] (by decide) rfl
    refine lv_aload_n hx hb dX6_factors_15 rfl (lv_at hl 0 rfl) ?_
    refine va_get (D := D) (ci := 5) (v := .ref hmM) (C := RX6) (T := TX6) (N := 16) hx hb hts inX6_factors_X6 hown hK hP 0 rfl rfl 12 (by decide) (hts _ mX6_factors_0) (fun _ h9 => h9) rfl dX6_factors_16 ?_
    refine lv_iload_n hx hb dX6_factors_19 rfl (lv_at hl 1 rfl) ?_
    obtain ⟨b_8, hf⟩ := ite_n hf
    refine va_iald hx hb hK hP 6 0 rfl rfl b_8 dX6_factors_20 ?_
    cases hf
    exact W.iret (v := (r_4.2.2.2.1 x1.toNatClampNeg)) hx hb hr (fun t ht hW => ⟨⟨_, (), rfl, rfl, by rw [ht]; exact hP, hD⟩, hS.F ht⟩) hS.2.2 dX6_factors_21
  · have hf := ite_t hf c_3
    refine lv_iconst (v := (-1 : Int32)) hx hb dX6_factors_8 (by decide) ?_
    cases hf
    exact W.iret (v := (-1 : Int32)) hx hb hr (fun t ht hW => ⟨⟨_, (), rfl, rfl, by rw [ht]; exact hP, hD⟩, hS.F ht⟩) hS.2.2 dX6_factors_9
/-! SumFormsModel.feed(IJ)I -/
abbrev rX6_feed : Room := { frames := 0, cells := 0, slots := 0, locals := 0 }
theorem mX6_feed_0 : Cond.fieldLink RX6 63 "SumFormsModel" "size" "I" ∈ wsX6_feed := by decide +kernel
theorem mX6_feed_1 : Cond.fieldLink RX6 30 "SumFormsModel" "text" "[I" ∈ wsX6_feed := by decide +kernel
theorem mX6_feed_2 : Cond.constantLong RX6 66 (255) ∈ wsX6_feed := by decide +kernel
theorem inX6_feed_X6 : ∀ w ∈ u_ws RX6 TX6 16, w ∈ wsX6_feed := by decide +kernel
abbrev GX6_feed (p : Program) (l : Launch) (e : Env) (s : State) (m : MethodId) (args : Array Value) (below : List Frame) (meth : Method) (c : Code) (D : va_G) (cy : Nat → ClassId) (A : Nat → Prop) (hmo : Nat) (hmW : Nat) (hmP : Nat) (hmS : Nat) (hmE : Nat) (hmI : Nat) (hmO : Nat) (hmT : Nat) (hmK : Nat) (hmF : Nat) (hmH : Nat) (hmM : Nat) (hmD : Nat) (hmR : Nat) (hmB : Nat) (mC : Int32) (r0 : Int32 × Int32 × (Nat → Int32)) (H : Heap) (locs : List Loc) (fr : JFrame) : Prop := W p l e (headSpec wsX6_feed rX6_feed).room s m args below meth c H locs 0 0 (MQ below (Qwi D A [(hmo, .inr (5, [.int mC, .ref hmW, .ref hmP, .ref hmS, .ref hmE, .ref hmI, .ref hmO, .ref hmT, .int r0.2.1, .ref hmK, .ref hmF, .ref hmH, .ref hmM, .ref hmD, .ref hmR, .ref hmB])), (hmT, .inl (cy 0, 600, .inl r0.2.2))] r0.1) args s 0 0 A) fr
def fX6_feed_B33 (N : Nat) (x2 : Int64) (self : Int32 → (Nat → Int32) → Int32 → Option (Int32 × Int32 × (Nat → Int32))) (k : Int32 → (Nat → Int32) → Option (Int32 × Int32 × (Nat → Int32))) (mN : Int32) (mT : Nat → Int32) (x4 : Int32) : Option (Int32 × Int32 × (Nat → Int32)) := (if x4 < 0 then (k mN mT) else (if OOB mN 600 then none else (self (mN + (1 : Int32)) (upd mT mN.toNatClampNeg (((lShr x2 ((8 : Int32) * x4)) &&& (255 : Int64)).toInt32)) (x4 + (-1 : Int32)))))
def fX6_feed_L33 (N : Nat) (x2 : Int64) (k : Int32 → (Nat → Int32) → Option (Int32 × Int32 × (Nat → Int32))) : Nat → Int32 → (Nat → Int32) → Int32 → Option (Int32 × Int32 × (Nat → Int32))
  | 0 => fun _ _ _ => none
  | n + 1 => fun mN mT x4 => fX6_feed_B33 N x2 (fX6_feed_L33 N x2 k n) k mN mT x4
def fX6_feed (N : Nat) (mN : Int32) (mT : Nat → Int32) (x1 : Int32) (x2 : Int64) : Option (Int32 × Int32 × (Nat → Int32)) := (if x1 < (1 : Int32) then (some ((-1 : Int32), mN, mT)) else (if x1 ≤ (8 : Int32) then (if (mN + x1) ≤ (600 : Int32) then (fX6_feed_L33 N x2 (fun mN_10 mT_11 => (some (mN_10, mN_10, mT_11))) N mN mT (x1 - (1 : Int32))) else (some ((-2 : Int32), mN, mT))) else (some ((-1 : Int32), mN, mT))))
set_option maxHeartbeats 4000000 in
set_option maxRecDepth 100000 in
theorem wX6_feed_B33 {p : Program} {l : Launch} {e : Env} {s : State} {m : MethodId} {args : Array Value} {below : List Frame} {meth : Method} {c : Code} {D : va_G} {cy : Nat → ClassId} {A : Nat → Prop} {hmo hmW hmP hmS hmE hmI hmO hmT hmK hmF hmH hmM hmD hmR hmB : Nat} {mC : Int32} {r0 : Int32 × Int32 × (Nat → Int32)} (E0 : En p m c cX6_feed 5 s args wsX6_feed RX6 meth (some .int) D cy) (N : Nat) (x2 : Int64) (hA : ∀ q, s.heap.size ≤ q → A q) (self : Int32 → (Nat → Int32) → Int32 → Option (Int32 × Int32 × (Nat → Int32))) (hself : ∀ (mN : Int32) (mT : Nat → Int32) (x4 : Int32) (H : Heap) (locs : List Loc) (ls : Array Slot), va_P D vwCl [(hmo, .inr (5, [.int mC, .ref hmW, .ref hmP, .ref hmS, .ref hmE, .ref hmI, .ref hmO, .ref hmT, .int mN, .ref hmK, .ref hmF, .ref hmH, .ref hmM, .ref hmD, .ref hmR, .ref hmB])), (hmT, .inl (cy 0, 600, .inl mT))] H → va_D A [(hmo, .inr (5, [.int mC, .ref hmW, .ref hmP, .ref hmS, .ref hmE, .ref hmI, .ref hmO, .ref hmT, .int mN, .ref hmK, .ref hmF, .ref hmH, .ref hmM, .ref hmD, .ref hmR, .ref hmB])), (hmT, .inl (cy 0, 600, .inl mT))] → va_S A s.heap H locs → lv_has ls 5 [(0, .ref hmo), (2, .long x2), (4, .int x4)] → self mN mT x4 = some r0 → GX6_feed p l e s m args below meth c D cy A hmo hmW hmP hmS hmE hmI hmO hmT hmK hmF hmH hmM hmD hmR hmB mC r0 H locs (F0 m 33 ls [])) (k : Int32 → (Nat → Int32) → Option (Int32 × Int32 × (Nat → Int32))) (hk : ∀ (mN : Int32) (mT : Nat → Int32) (H : Heap) (locs : List Loc) (ls : Array Slot), va_P D vwCl [(hmo, .inr (5, [.int mC, .ref hmW, .ref hmP, .ref hmS, .ref hmE, .ref hmI, .ref hmO, .ref hmT, .int mN, .ref hmK, .ref hmF, .ref hmH, .ref hmM, .ref hmD, .ref hmR, .ref hmB])), (hmT, .inl (cy 0, 600, .inl mT))] H → va_D A [(hmo, .inr (5, [.int mC, .ref hmW, .ref hmP, .ref hmS, .ref hmE, .ref hmI, .ref hmO, .ref hmT, .int mN, .ref hmK, .ref hmF, .ref hmH, .ref hmM, .ref hmD, .ref hmR, .ref hmB])), (hmT, .inl (cy 0, 600, .inl mT))] → va_S A s.heap H locs → lv_has ls 5 [(0, .ref hmo)] → k mN mT = some r0 → GX6_feed p l e s m args below meth c D cy A hmo hmW hmP hmS hmE hmI hmO hmT hmK hmF hmH hmM hmD hmR hmB mC r0 H locs (F0 m 75 ls [])) : ∀ (mN : Int32) (mT : Nat → Int32) (x4 : Int32) (H : Heap) (locs : List Loc) (ls : Array Slot), va_P D vwCl [(hmo, .inr (5, [.int mC, .ref hmW, .ref hmP, .ref hmS, .ref hmE, .ref hmI, .ref hmO, .ref hmT, .int mN, .ref hmK, .ref hmF, .ref hmH, .ref hmM, .ref hmD, .ref hmR, .ref hmB])), (hmT, .inl (cy 0, 600, .inl mT))] H → va_D A [(hmo, .inr (5, [.int mC, .ref hmW, .ref hmP, .ref hmS, .ref hmE, .ref hmI, .ref hmO, .ref hmT, .int mN, .ref hmK, .ref hmF, .ref hmH, .ref hmM, .ref hmD, .ref hmR, .ref hmB])), (hmT, .inl (cy 0, 600, .inl mT))] → va_S A s.heap H locs → lv_has ls 5 [(0, .ref hmo), (2, .long x2), (4, .int x4)] → fX6_feed_B33 N x2 self k mN mT x4 = some r0 → GX6_feed p l e s m args below meth c D cy A hmo hmW hmP hmS hmE hmI hmO hmT hmK hmF hmH hmM hmD hmR hmB mC r0 H locs (F0 m 33 ls []) := by
  obtain ⟨⟨hx, hb, hml, hown, hts⟩, hr, hlocks, hB⟩ := id E0
  have hK := hB.1
  have hN := hB.2
  intro mN mT x4 H locs ls hP hD hS hl hf
  unfold fX6_feed_B33 at hf
  refine lv_iload hx hb dX6_feed_33 (lv_at hl 2 rfl) ?_
  refine lv_if_lt (tgt := 75) hx hb dX6_feed_35 (by decide) (fun c_4 => ?_) (fun c_4 => ?_)
  · have hf := ite_t hf c_4
    exact hk _ _ _ _ _ hP hD hS (lv_sub hl [0] rfl) hf
  · have hf := ite_f hf c_4
    refine lv_aload_n hx hb dX6_feed_38 rfl (lv_at hl 0 rfl) ?_
    refine va_get (D := D) (ci := 5) (v := .ref hmT) (C := RX6) (T := TX6) (N := 16) hx hb hts inX6_feed_X6 hown hK hP 0 rfl rfl 7 (by decide) (hts _ mX6_feed_1) (fun _ h9 => h9) rfl dX6_feed_39 ?_
    refine lv_aload_n hx hb dX6_feed_42 rfl (lv_at hl 0 rfl) ?_
    refine va_get (D := D) (ci := 5) (v := .int mN) (C := RX6) (T := TX6) (N := 16) hx hb hts inX6_feed_X6 hown hK hP 0 rfl rfl 8 (by decide) (hts _ mX6_feed_0) (fun _ h9 => h9) rfl dX6_feed_43 ?_
    refine lv_lload_n hx hb dX6_feed_46 rfl (lv_at hl 1 rfl) ?_
    refine lv_bipush (v := (8 : Int32)) hx hb dX6_feed_47 (by decide) ?_
    refine lv_iload hx hb dX6_feed_49 (lv_at hl 2 rfl) ?_
    refine lv_imul hx hb dX6_feed_51 ?_
    refine zz_lshr hx hb dX6_feed_52 ?_
    refine lv_ldc2 (v := (255 : Int64)) hx hb hown (hts _ mX6_feed_2) dX6_feed_53 ?_
    refine lv_land hx hb dX6_feed_56 ?_
    refine lv_l2i (v := ((lShr x2 ((8 : Int32) * x4)) &&& (255 : Int64)).toInt32) hx hb dX6_feed_57 rfl ?_
    obtain ⟨b_5, hf⟩ := ite_n hf
    refine va_iast hx hb hK hP hD hS 1 0 rfl rfl b_5 dX6_feed_58 (fun H6 locs7 hP hD hS => ?_)
    have hP : va_P D vwCl [(hmo, .inr (5, [.int mC, .ref hmW, .ref hmP, .ref hmS, .ref hmE, .ref hmI, .ref hmO, .ref hmT, .int mN, .ref hmK, .ref hmF, .ref hmH, .ref hmM, .ref hmD, .ref hmR, .ref hmB])), (hmT, .inl (cy 0, 600, .inl (upd mT mN.toNatClampNeg (((lShr x2 ((8 : Int32) * x4)) &&& (255 : Int64)).toInt32))))] H6 := hP
    have hD : va_D A [(hmo, .inr (5, [.int mC, .ref hmW, .ref hmP, .ref hmS, .ref hmE, .ref hmI, .ref hmO, .ref hmT, .int mN, .ref hmK, .ref hmF, .ref hmH, .ref hmM, .ref hmD, .ref hmR, .ref hmB])), (hmT, .inl (cy 0, 600, .inl (upd mT mN.toNatClampNeg (((lShr x2 ((8 : Int32) * x4)) &&& (255 : Int64)).toInt32))))] := hD
    refine lv_aload_n hx hb dX6_feed_59 rfl (lv_at hl 0 rfl) ?_
    refine lv_dup hx hb dX6_feed_60 rfl ?_
    refine va_get (D := D) (ci := 5) (v := .int mN) (C := RX6) (T := TX6) (N := 16) hx hb hts inX6_feed_X6 hown hK hP 0 rfl rfl 8 (by decide) (hts _ mX6_feed_0) (fun _ h9 => h9) rfl dX6_feed_61 ?_
    refine lv_iconst (v := (1 : Int32)) hx hb dX6_feed_64 (by decide) ?_
    refine lv_iadd hx hb dX6_feed_65 ?_
    refine va_put (D := D) (ci := 5) (v := .int (mN + (1 : Int32))) (ty := .int) (C := RX6) (T := TX6) (N := 16) hx hb hts inX6_feed_X6 tyX6 tyX6_ok nmX6 hown hK hP hD hS 0 rfl rfl 8 (by decide) (hts _ mX6_feed_0) (fun _ h9 => h9) rfl (by decide +kernel) rfl rfl (Nat.le_of_ble_eq_true rfl) dX6_feed_66 (fun H8 locs9 hP hD hS => ?_)
    have hP : va_P D vwCl [(hmo, .inr (5, [.int mC, .ref hmW, .ref hmP, .ref hmS, .ref hmE, .ref hmI, .ref hmO, .ref hmT, .int (mN + (1 : Int32)), .ref hmK, .ref hmF, .ref hmH, .ref hmM, .ref hmD, .ref hmR, .ref hmB])), (hmT, .inl (cy 0, 600, .inl (upd mT mN.toNatClampNeg (((lShr x2 ((8 : Int32) * x4)) &&& (255 : Int64)).toInt32))))] H8 := hP
    have hD : va_D A [(hmo, .inr (5, [.int mC, .ref hmW, .ref hmP, .ref hmS, .ref hmE, .ref hmI, .ref hmO, .ref hmT, .int (mN + (1 : Int32)), .ref hmK, .ref hmF, .ref hmH, .ref hmM, .ref hmD, .ref hmR, .ref hmB])), (hmT, .inl (cy 0, 600, .inl (upd mT mN.toNatClampNeg (((lShr x2 ((8 : Int32) * x4)) &&& (255 : Int64)).toInt32))))] := hD
    refine lv_iinc (v := (x4 + (-1 : Int32))) (lv' := [(4, .int (x4 + (-1 : Int32))), (0, .ref hmo), (2, .long x2)]) hx hb dX6_feed_69 hl (k := 2) rfl rfl (by decide) rfl (fun ls hl => ?_)
    refine lv_goto (tgt := 33) hx hb dX6_feed_72 (by decide) ?_
    exact hself _ _ _ _ _ _ hP hD hS (lv_sub hl [1, 2, 0] rfl) hf
theorem wX6_feed_L33 {p : Program} {l : Launch} {e : Env} {s : State} {m : MethodId} {args : Array Value} {below : List Frame} {meth : Method} {c : Code} {D : va_G} {cy : Nat → ClassId} {A : Nat → Prop} {hmo hmW hmP hmS hmE hmI hmO hmT hmK hmF hmH hmM hmD hmR hmB : Nat} {mC : Int32} {r0 : Int32 × Int32 × (Nat → Int32)} (E0 : En p m c cX6_feed 5 s args wsX6_feed RX6 meth (some .int) D cy) (N : Nat) (x2 : Int64) (hA : ∀ q, s.heap.size ≤ q → A q) (k : Int32 → (Nat → Int32) → Option (Int32 × Int32 × (Nat → Int32))) (hk : ∀ (mN : Int32) (mT : Nat → Int32) (H : Heap) (locs : List Loc) (ls : Array Slot), va_P D vwCl [(hmo, .inr (5, [.int mC, .ref hmW, .ref hmP, .ref hmS, .ref hmE, .ref hmI, .ref hmO, .ref hmT, .int mN, .ref hmK, .ref hmF, .ref hmH, .ref hmM, .ref hmD, .ref hmR, .ref hmB])), (hmT, .inl (cy 0, 600, .inl mT))] H → va_D A [(hmo, .inr (5, [.int mC, .ref hmW, .ref hmP, .ref hmS, .ref hmE, .ref hmI, .ref hmO, .ref hmT, .int mN, .ref hmK, .ref hmF, .ref hmH, .ref hmM, .ref hmD, .ref hmR, .ref hmB])), (hmT, .inl (cy 0, 600, .inl mT))] → va_S A s.heap H locs → lv_has ls 5 [(0, .ref hmo)] → k mN mT = some r0 → GX6_feed p l e s m args below meth c D cy A hmo hmW hmP hmS hmE hmI hmO hmT hmK hmF hmH hmM hmD hmR hmB mC r0 H locs (F0 m 75 ls [])) : ∀ (n : Nat), ∀ (mN : Int32) (mT : Nat → Int32) (x4 : Int32) (H : Heap) (locs : List Loc) (ls : Array Slot), va_P D vwCl [(hmo, .inr (5, [.int mC, .ref hmW, .ref hmP, .ref hmS, .ref hmE, .ref hmI, .ref hmO, .ref hmT, .int mN, .ref hmK, .ref hmF, .ref hmH, .ref hmM, .ref hmD, .ref hmR, .ref hmB])), (hmT, .inl (cy 0, 600, .inl mT))] H → va_D A [(hmo, .inr (5, [.int mC, .ref hmW, .ref hmP, .ref hmS, .ref hmE, .ref hmI, .ref hmO, .ref hmT, .int mN, .ref hmK, .ref hmF, .ref hmH, .ref hmM, .ref hmD, .ref hmR, .ref hmB])), (hmT, .inl (cy 0, 600, .inl mT))] → va_S A s.heap H locs → lv_has ls 5 [(0, .ref hmo), (2, .long x2), (4, .int x4)] → fX6_feed_L33 N x2 k n mN mT x4 = some r0 → GX6_feed p l e s m args below meth c D cy A hmo hmW hmP hmS hmE hmI hmO hmT hmK hmF hmH hmM hmD hmR hmB mC r0 H locs (F0 m 33 ls []) := by
  intro n
  induction n with
  | zero => intro mN mT x4 H locs ls hP hD hS hl hf; cases hf
  | succ n ih => exact wX6_feed_B33 E0 N x2 hA _ ih k hk
set_option maxHeartbeats 4000000 in
set_option maxRecDepth 100000 in
theorem ctX6_feed (l : Launch) (D : va_G) (cy : Nat → ClassId) (N : Nat) (hmo hmW hmP hmS hmE hmI hmO hmT hmK hmF hmH hmM hmD hmR hmB : Nat) (sz : Nat) (mC : Int32) (mN : Int32) (mT : Nat → Int32) (x1 : Int32) (x2 : Int64) (r0 : Int32 × Int32 × (Nat → Int32)) (hf : fX6_feed N mN mT x1 x2 = some r0) : Met l yX6_feed wsX6_feed rX6_feed (va_Pc [.ref hmo, .int x1, .long x2] (Wr D cy [(hmo, .inr (5, [.int mC, .ref hmW, .ref hmP, .ref hmS, .ref hmE, .ref hmI, .ref hmO, .ref hmT, .int mN, .ref hmK, .ref hmF, .ref hmH, .ref hmM, .ref hmD, .ref hmR, .ref hmB])), (hmT, .inl (cy 0, 600, .inl mT))] sz)) (Qwi D (va_A [(hmo, .inr (5, [.int mC, .ref hmW, .ref hmP, .ref hmS, .ref hmE, .ref hmI, .ref hmO, .ref hmT, .int mN, .ref hmK, .ref hmF, .ref hmH, .ref hmM, .ref hmD, .ref hmR, .ref hmB])), (hmT, .inl (cy 0, 600, .inl mT))] sz) [(hmo, .inr (5, [.int mC, .ref hmW, .ref hmP, .ref hmS, .ref hmE, .ref hmI, .ref hmO, .ref hmT, .int r0.2.1, .ref hmK, .ref hmF, .ref hmH, .ref hmM, .ref hmD, .ref hmR, .ref hmB])), (hmT, .inl (cy 0, 600, .inl r0.2.2))] r0.1) 0 0 (va_A [(hmo, .inr (5, [.int mC, .ref hmW, .ref hmP, .ref hmS, .ref hmE, .ref hmI, .ref hmO, .ref hmT, .int mN, .ref hmK, .ref hmF, .ref hmH, .ref hmM, .ref hmD, .ref hmR, .ref hmB])), (hmT, .inl (cy 0, 600, .inl mT))] sz) := by
  refine Met.ofW (cc := cX6_feed) (maxL := 5) (ret := (some .int)) (by decide) rfl ?_
  intro p e s m args below meth c s₁ B hml hv
  obtain ⟨rfl, hsz, hP, hD0, hB⟩ := hv
  have hx := B.exec
  have hb := B.bytes
  have hr := B.returns
  have hts := atoms_spec (ws := wsX6_feed) B.pre
  have hown : s.vm.findClass RX6 = some m.cls := findClass_of_methodNamed B.named
  have hlocks := B.notSynchronized
  have hK := hB.1
  have hN := hB.2
  subst hsz
  have hD := hD0.self (sz := s.heap.size)
  have hA : ∀ q : Nat, s.heap.size ≤ q → va_A [(hmo, .inr (5, [.int mC, .ref hmW, .ref hmP, .ref hmS, .ref hmE, .ref hmI, .ref hmO, .ref hmT, .int mN, .ref hmK, .ref hmF, .ref hmH, .ref hmM, .ref hmD, .ref hmR, .ref hmB])), (hmT, .inl (cy 0, 600, .inl mT))] s.heap.size q := fun q h => Or.inr h
  generalize va_A [(hmo, .inr (5, [.int mC, .ref hmW, .ref hmP, .ref hmS, .ref hmE, .ref hmI, .ref hmO, .ref hmT, .int mN, .ref hmK, .ref hmF, .ref hmH, .ref hmM, .ref hmD, .ref hmR, .ref hmB])), (hmT, .inl (cy 0, 600, .inl mT))] s.heap.size = A at hD hA ⊢
  have hS : va_S A s.heap s.heap [] := va_S.rf
  have hl := lv_entry ([.ref hmo, .int x1, .long x2]) (n := 5) (Nat.le_of_ble_eq_true rfl)
  rw [lg_entry_eq]
  generalize (lg_sl ([.ref hmo, .int x1, .long x2]) ++ List.replicate (5 - (lg_sl ([.ref hmo, .int x1, .long x2])).length) Slot.unset).toArray = ls at hl ⊢
  have hl : lv_has ls 5 [(0, .ref hmo), (1, .int x1), (2, .long x2)] := hl
  have E0 : En p m c cX6_feed 5 s ([.ref hmo, .int x1, .long x2] : List Value).toArray wsX6_feed RX6 meth (some .int) D cy := ⟨⟨hx, hb, hml, hown, hts⟩, hr, hlocks, hB⟩
  unfold fX6_feed at hf
  refine lv_iload_n hx hb dX6_feed_0 rfl (lv_at hl 1 rfl) ?_
  refine lv_iconst (v := (1 : Int32)) hx hb dX6_feed_1 (by decide) ?_
  refine lv_icmp_lt (tgt := 11) hx hb dX6_feed_2 (by decide) (fun c_1 => ?_) (fun c_1 => ?_)
  · have hf := ite_t hf c_1
    refine lv_iconst (v := (-1 : Int32)) hx hb dX6_feed_11 (by decide) ?_
    cases hf
    exact W.iret (v := (-1 : Int32)) hx hb hr (fun t ht hW => ⟨⟨_, (), rfl, rfl, by rw [ht]; exact hP, hD⟩, hS.F ht⟩) hS.2.2 dX6_feed_12
  · have hf := ite_f hf c_1
    refine lv_iload_n hx hb dX6_feed_5 rfl (lv_at hl 1 rfl) ?_
    refine lv_bipush (v := (8 : Int32)) hx hb dX6_feed_6 (by decide) ?_
    refine lv_icmp_le (tgt := 13) hx hb dX6_feed_8 (by decide) (fun c_2 => ?_) (fun c_2 => ?_)
    · have hf := ite_t hf c_2
      refine lv_aload_n hx hb dX6_feed_13 rfl (lv_at hl 0 rfl) ?_
      refine va_get (D := D) (ci := 5) (v := .int mN) (C := RX6) (T := TX6) (N := 16) hx hb hts inX6_feed_X6 hown hK hP 0 rfl rfl 8 (by decide) (hts _ mX6_feed_0) (fun _ h9 => h9) rfl dX6_feed_14 ?_
      refine lv_iload_n hx hb dX6_feed_17 rfl (lv_at hl 1 rfl) ?_
      refine lv_iadd hx hb dX6_feed_18 ?_
      refine lv_sipush (v := (600 : Int32)) hx hb dX6_feed_19 (by decide) ?_
      refine lv_icmp_le (tgt := 28) hx hb dX6_feed_22 (by decide) (fun c_3 => ?_) (fun c_3 => ?_)
      · have hf := ite_t hf c_3
        refine lv_iload_n hx hb dX6_feed_28 rfl (lv_at hl 1 rfl) ?_
        refine lv_iconst (v := (1 : Int32)) hx hb dX6_feed_29 (by decide) ?_
        refine lv_isub hx hb dX6_feed_30 ?_
        refine lv_istore (lv' := [(4, .int (x1 - (1 : Int32))), (0, .ref hmo), (1, .int x1), (2, .long x2)]) hx hb dX6_feed_31 hl (by decide) rfl (fun ls hl => ?_)
        refine wX6_feed_L33 E0 N x2 hA _ (fun mN_10 mT_11 H12 locs13 ls hP hD hS hl hf => ?_) N _ _ _ _ _ _ hP hD hS (lv_sub hl [1, 3, 0] rfl) hf
        refine lv_aload_n hx hb dX6_feed_75 rfl (lv_at hl 0 rfl) ?_
        refine va_get (D := D) (ci := 5) (v := .int mN_10) (C := RX6) (T := TX6) (N := 16) hx hb hts inX6_feed_X6 hown hK hP 0 rfl rfl 8 (by decide) (hts _ mX6_feed_0) (fun _ h9 => h9) rfl dX6_feed_76 ?_
        cases hf
        exact W.iret (v := mN_10) hx hb hr (fun t ht hW => ⟨⟨_, (), rfl, rfl, by rw [ht]; exact hP, hD⟩, hS.F ht⟩) hS.2.2 dX6_feed_79
      · have hf := ite_f hf c_3
        refine lv_bipush (v := (-2 : Int32)) hx hb dX6_feed_25 (by decide) ?_
        cases hf
        exact W.iret (v := (-2 : Int32)) hx hb hr (fun t ht hW => ⟨⟨_, (), rfl, rfl, by rw [ht]; exact hP, hD⟩, hS.F ht⟩) hS.2.2 dX6_feed_27
    · have hf := ite_f hf c_2
      refine lv_iconst (v := (-1 : Int32)) hx hb dX6_feed_11 (by decide) ?_
      cases hf
      exact W.iret (v := (-1 : Int32)) hx hb hr (fun t ht hW => ⟨⟨_, (), rfl, rfl, by rw [ht]; exact hP, hD⟩, hS.F ht⟩) hS.2.2 dX6_feed_12
/-! SumFormsModel.forget()I -/
abbrev rX6_forget : Room := { frames := 0, cells := 0, slots := 0, locals := 0 }
theorem mX6_forget_0 : Cond.fieldLink RX6 59 "SumFormsModel" "forms" "I" ∈ wsX6_forget := by decide +kernel
theorem inX6_forget_X6 : ∀ w ∈ u_ws RX6 TX6 16, w ∈ wsX6_forget := by decide +kernel
abbrev GX6_forget (p : Program) (l : Launch) (e : Env) (s : State) (m : MethodId) (args : Array Value) (below : List Frame) (meth : Method) (c : Code) (D : va_G) (cy : Nat → ClassId) (A : Nat → Prop) (hmo : Nat) (hmW : Nat) (hmP : Nat) (hmS : Nat) (hmE : Nat) (hmI : Nat) (hmO : Nat) (hmT : Nat) (hmK : Nat) (hmF : Nat) (hmH : Nat) (hmM : Nat) (hmD : Nat) (hmR : Nat) (hmB : Nat) (mN : Int32) (r0 : Int32 × Int32) (H : Heap) (locs : List Loc) (fr : JFrame) : Prop := W p l e (headSpec wsX6_forget rX6_forget).room s m args below meth c H locs 0 0 (MQ below (Qwi D A [(hmo, .inr (5, [.int r0.2, .ref hmW, .ref hmP, .ref hmS, .ref hmE, .ref hmI, .ref hmO, .ref hmT, .int mN, .ref hmK, .ref hmF, .ref hmH, .ref hmM, .ref hmD, .ref hmR, .ref hmB]))] r0.1) args s 0 0 A) fr
def fX6_forget (N : Nat) (mC : Int32)  : Option (Int32 × Int32) := (some (mC, (0 : Int32)))
set_option maxHeartbeats 4000000 in
set_option maxRecDepth 100000 in
theorem ctX6_forget (l : Launch) (D : va_G) (cy : Nat → ClassId) (N : Nat) (hmo hmW hmP hmS hmE hmI hmO hmT hmK hmF hmH hmM hmD hmR hmB : Nat) (sz : Nat) (mC : Int32) (mN : Int32)  (r0 : Int32 × Int32) (hf : fX6_forget N mC = some r0) : Met l yX6_forget wsX6_forget rX6_forget (va_Pc [.ref hmo] (Wr D cy [(hmo, .inr (5, [.int mC, .ref hmW, .ref hmP, .ref hmS, .ref hmE, .ref hmI, .ref hmO, .ref hmT, .int mN, .ref hmK, .ref hmF, .ref hmH, .ref hmM, .ref hmD, .ref hmR, .ref hmB]))] sz)) (Qwi D (va_A [(hmo, .inr (5, [.int mC, .ref hmW, .ref hmP, .ref hmS, .ref hmE, .ref hmI, .ref hmO, .ref hmT, .int mN, .ref hmK, .ref hmF, .ref hmH, .ref hmM, .ref hmD, .ref hmR, .ref hmB]))] sz) [(hmo, .inr (5, [.int r0.2, .ref hmW, .ref hmP, .ref hmS, .ref hmE, .ref hmI, .ref hmO, .ref hmT, .int mN, .ref hmK, .ref hmF, .ref hmH, .ref hmM, .ref hmD, .ref hmR, .ref hmB]))] r0.1) 0 0 (va_A [(hmo, .inr (5, [.int mC, .ref hmW, .ref hmP, .ref hmS, .ref hmE, .ref hmI, .ref hmO, .ref hmT, .int mN, .ref hmK, .ref hmF, .ref hmH, .ref hmM, .ref hmD, .ref hmR, .ref hmB]))] sz) := by
  refine Met.ofW (cc := cX6_forget) (maxL := 2) (ret := (some .int)) (by decide) rfl ?_
  intro p e s m args below meth c s₁ B hml hv
  obtain ⟨rfl, hsz, hP, hD0, hB⟩ := hv
  have hx := B.exec
  have hb := B.bytes
  have hr := B.returns
  have hts := atoms_spec (ws := wsX6_forget) B.pre
  have hown : s.vm.findClass RX6 = some m.cls := findClass_of_methodNamed B.named
  have hlocks := B.notSynchronized
  have hK := hB.1
  have hN := hB.2
  subst hsz
  have hD := hD0.self (sz := s.heap.size)
  have hA : ∀ q : Nat, s.heap.size ≤ q → va_A [(hmo, .inr (5, [.int mC, .ref hmW, .ref hmP, .ref hmS, .ref hmE, .ref hmI, .ref hmO, .ref hmT, .int mN, .ref hmK, .ref hmF, .ref hmH, .ref hmM, .ref hmD, .ref hmR, .ref hmB]))] s.heap.size q := fun q h => Or.inr h
  generalize va_A [(hmo, .inr (5, [.int mC, .ref hmW, .ref hmP, .ref hmS, .ref hmE, .ref hmI, .ref hmO, .ref hmT, .int mN, .ref hmK, .ref hmF, .ref hmH, .ref hmM, .ref hmD, .ref hmR, .ref hmB]))] s.heap.size = A at hD hA ⊢
  have hS : va_S A s.heap s.heap [] := va_S.rf
  have hl := lv_entry ([.ref hmo]) (n := 2) (Nat.le_of_ble_eq_true rfl)
  rw [lg_entry_eq]
  generalize (lg_sl ([.ref hmo]) ++ List.replicate (2 - (lg_sl ([.ref hmo])).length) Slot.unset).toArray = ls at hl ⊢
  have hl : lv_has ls 2 [(0, .ref hmo)] := hl
  have E0 : En p m c cX6_forget 2 s ([.ref hmo] : List Value).toArray wsX6_forget RX6 meth (some .int) D cy := ⟨⟨hx, hb, hml, hown, hts⟩, hr, hlocks, hB⟩
  unfold fX6_forget at hf
  refine lv_aload_n hx hb dX6_forget_0 rfl (lv_at hl 0 rfl) ?_
  refine va_get (D := D) (ci := 5) (v := .int mC) (C := RX6) (T := TX6) (N := 16) hx hb hts inX6_forget_X6 hown hK hP 0 rfl rfl 0 (by decide) (hts _ mX6_forget_0) (fun _ h9 => h9) rfl dX6_forget_1 ?_
  refine lv_istore_n (lv' := [(1, .int mC), (0, .ref hmo)]) hx hb dX6_forget_4 rfl hl (by decide) rfl (fun ls hl => ?_)
  refine lv_aload_n hx hb dX6_forget_5 rfl (lv_at hl 1 rfl) ?_
  refine lv_iconst (v := (0 : Int32)) hx hb dX6_forget_6 (by decide) ?_
  refine va_put (D := D) (ci := 5) (v := .int (0 : Int32)) (ty := .int) (C := RX6) (T := TX6) (N := 16) hx hb hts inX6_forget_X6 tyX6 tyX6_ok nmX6 hown hK hP hD hS 0 rfl rfl 0 (by decide) (hts _ mX6_forget_0) (fun _ h9 => h9) rfl (by decide +kernel) rfl rfl (Nat.le_of_ble_eq_true rfl) dX6_forget_7 (fun H1 locs2 hP hD hS => ?_)
  have hP : va_P D vwCl [(hmo, .inr (5, [.int (0 : Int32), .ref hmW, .ref hmP, .ref hmS, .ref hmE, .ref hmI, .ref hmO, .ref hmT, .int mN, .ref hmK, .ref hmF, .ref hmH, .ref hmM, .ref hmD, .ref hmR, .ref hmB]))] H1 := hP
  have hD : va_D A [(hmo, .inr (5, [.int (0 : Int32), .ref hmW, .ref hmP, .ref hmS, .ref hmE, .ref hmI, .ref hmO, .ref hmT, .int mN, .ref hmK, .ref hmF, .ref hmH, .ref hmM, .ref hmD, .ref hmR, .ref hmB]))] := hD
  refine lv_iload_n hx hb dX6_forget_10 rfl (lv_at hl 0 rfl) ?_
  cases hf
  exact W.iret (v := mC) hx hb hr (fun t ht hW => ⟨⟨_, (), rfl, rfl, by rw [ht]; exact hP, hD⟩, hS.F ht⟩) hS.2.2 dX6_forget_11
/-! SumFormsModel.form(IJJJZZ)I -/
abbrev rX6_form : Room := { frames := 1, cells := 0, slots := 0, locals := 22 }
theorem mX6_form_0 : Cond.fieldLink RX6 59 "SumFormsModel" "forms" "I" ∈ wsX6_form := by decide +kernel
theorem mX6_form_1 : Cond.fieldLink RX6 7 "SumFormsModel" "width" "[I" ∈ wsX6_form := by decide +kernel
theorem mX6_form_2 : Cond.fieldLink RX6 13 "SumFormsModel" "poly" "[J" ∈ wsX6_form := by decide +kernel
theorem mX6_form_3 : Cond.fieldLink RX6 17 "SumFormsModel" "start" "[J" ∈ wsX6_form := by decide +kernel
theorem mX6_form_4 : Cond.fieldLink RX6 20 "SumFormsModel" "end" "[J" ∈ wsX6_form := by decide +kernel
theorem mX6_form_5 : Cond.fieldLink RX6 23 "SumFormsModel" "turnsIn" "[Z" ∈ wsX6_form := by decide +kernel
theorem mX6_form_6 : Cond.fieldLink RX6 27 "SumFormsModel" "turnsOut" "[Z" ∈ wsX6_form := by decide +kernel
theorem mX6_form_7 : Cond.fieldLink RX6 33 "SumFormsModel" "known" "[Z" ∈ wsX6_form := by decide +kernel
theorem inX6_form_X6 : ∀ w ∈ u_ws RX6 TX6 16, w ∈ wsX6_form := by decide +kernel
abbrev GX6_form (p : Program) (l : Launch) (e : Env) (s : State) (m : MethodId) (args : Array Value) (below : List Frame) (meth : Method) (c : Code) (D : va_G) (cy : Nat → ClassId) (A : Nat → Prop) (hmo : Nat) (hmW : Nat) (hmP : Nat) (hmS : Nat) (hmE : Nat) (hmI : Nat) (hmO : Nat) (hmT : Nat) (hmK : Nat) (hmF : Nat) (hmH : Nat) (hmM : Nat) (hmD : Nat) (hmR : Nat) (hmB : Nat) (mN : Int32) (r0 : Int32 × Int32 × (Nat → Int32) × (Nat → Int64) × (Nat → Int64) × (Nat → Int64) × (Nat → Int32) × (Nat → Int32) × (Nat → Int32)) (H : Heap) (locs : List Loc) (fr : JFrame) : Prop := W p l e (headSpec wsX6_form rX6_form).room s m args below meth c H locs 0 0 (MQ below (Qwi D A [(hmo, .inr (5, [.int r0.2.1, .ref hmW, .ref hmP, .ref hmS, .ref hmE, .ref hmI, .ref hmO, .ref hmT, .int mN, .ref hmK, .ref hmF, .ref hmH, .ref hmM, .ref hmD, .ref hmR, .ref hmB])), (hmW, .inl (cy 0, 8, .inl r0.2.2.1)), (hmP, .inl (cy 1, 8, .inr (.inl r0.2.2.2.1))), (hmS, .inl (cy 1, 8, .inr (.inl r0.2.2.2.2.1))), (hmE, .inl (cy 1, 8, .inr (.inl r0.2.2.2.2.2.1))), (hmI, .inl (cy 2, 8, .inl r0.2.2.2.2.2.2.1)), (hmO, .inl (cy 2, 8, .inl r0.2.2.2.2.2.2.2.1)), (hmK, .inl (cy 2, 8, .inl r0.2.2.2.2.2.2.2.2))] r0.1) args s 0 0 A) fr
def fX6_form (N : Nat) (mC : Int32) (mW : Nat → Int32) (mP : Nat → Int64) (mS : Nat → Int64) (mE : Nat → Int64) (mI : Nat → Int32) (mO : Nat → Int32) (mK : Nat → Int32) (x1 : Int32) (x2 : Int64) (x4 : Int64) (x6 : Int64) (x8 : Int32) (x9 : Int32) : Option (Int32 × Int32 × (Nat → Int32) × (Nat → Int64) × (Nat → Int64) × (Nat → Int64) × (Nat → Int32) × (Nat → Int32) × (Nat → Int32)) := (if x1 < (3 : Int32) then (some ((-1 : Int32), mC, mW, mP, mS, mE, mI, mO, mK)) else (if (32 : Int32) < x1 then (some ((-1 : Int32), mC, mW, mP, mS, mE, mI, mO, mK)) else ((fX6_isOf N x1 x2).bind (fun r_5 => (if r_5 = 0 then (some ((-1 : Int32), mC, mW, mP, mS, mE, mI, mO, mK)) else (if (x2 &&& (1 : Int64)) = (1 : Int64) then ((fX6_isOf N x1 x4).bind (fun r_11 => (if r_11 = 0 then (some ((-1 : Int32), mC, mW, mP, mS, mE, mI, mO, mK)) else ((fX6_isOf N x1 x6).bind (fun r_15 => (if r_15 = 0 then (some ((-1 : Int32), mC, mW, mP, mS, mE, mI, mO, mK)) else (if mC = (8 : Int32) then (some ((-2 : Int32), mC, mW, mP, mS, mE, mI, mO, mK)) else (if OOB mC 8 then none else (if OOB mC 8 then none else (if OOB mC 8 then none else (if OOB mC 8 then none else (if OOB mC 8 then none else (if OOB mC 8 then none else (if OOB mC 8 then none else (some (((mC + (1 : Int32)) - (1 : Int32)), (mC + (1 : Int32)), (upd mW mC.toNatClampNeg x1), (vp_updL mP mC.toNatClampNeg x2), (vp_updL mS mC.toNatClampNeg x4), (vp_updL mE mC.toNatClampNeg x6), (upd mI mC.toNatClampNeg (vp_nar .boolean x8)), (upd mO mC.toNatClampNeg (vp_nar .boolean x9)), (upd mK mC.toNatClampNeg (vp_nar .boolean (0 : Int32))))))))))))))))))) else (some ((-1 : Int32), mC, mW, mP, mS, mE, mI, mO, mK))))))))
set_option maxHeartbeats 4000000 in
set_option maxRecDepth 100000 in
theorem ctX6_form (l : Launch) (D : va_G) (cy : Nat → ClassId) (N : Nat) (hmo hmW hmP hmS hmE hmI hmO hmT hmK hmF hmH hmM hmD hmR hmB : Nat) (sz : Nat) (mC : Int32) (mN : Int32) (mW : Nat → Int32) (mP : Nat → Int64) (mS : Nat → Int64) (mE : Nat → Int64) (mI : Nat → Int32) (mO : Nat → Int32) (mK : Nat → Int32) (x1 : Int32) (x2 : Int64) (x4 : Int64) (x6 : Int64) (x8 : Int32) (x9 : Int32) (r0 : Int32 × Int32 × (Nat → Int32) × (Nat → Int64) × (Nat → Int64) × (Nat → Int64) × (Nat → Int32) × (Nat → Int32) × (Nat → Int32)) (hf : fX6_form N mC mW mP mS mE mI mO mK x1 x2 x4 x6 x8 x9 = some r0) : Met l yX6_form wsX6_form rX6_form (va_Pc [.ref hmo, .int x1, .long x2, .long x4, .long x6, .int x8, .int x9] (Wr D cy [(hmo, .inr (5, [.int mC, .ref hmW, .ref hmP, .ref hmS, .ref hmE, .ref hmI, .ref hmO, .ref hmT, .int mN, .ref hmK, .ref hmF, .ref hmH, .ref hmM, .ref hmD, .ref hmR, .ref hmB])), (hmW, .inl (cy 0, 8, .inl mW)), (hmP, .inl (cy 1, 8, .inr (.inl mP))), (hmS, .inl (cy 1, 8, .inr (.inl mS))), (hmE, .inl (cy 1, 8, .inr (.inl mE))), (hmI, .inl (cy 2, 8, .inl mI)), (hmO, .inl (cy 2, 8, .inl mO)), (hmK, .inl (cy 2, 8, .inl mK))] sz)) (Qwi D (va_A [(hmo, .inr (5, [.int mC, .ref hmW, .ref hmP, .ref hmS, .ref hmE, .ref hmI, .ref hmO, .ref hmT, .int mN, .ref hmK, .ref hmF, .ref hmH, .ref hmM, .ref hmD, .ref hmR, .ref hmB])), (hmW, .inl (cy 0, 8, .inl mW)), (hmP, .inl (cy 1, 8, .inr (.inl mP))), (hmS, .inl (cy 1, 8, .inr (.inl mS))), (hmE, .inl (cy 1, 8, .inr (.inl mE))), (hmI, .inl (cy 2, 8, .inl mI)), (hmO, .inl (cy 2, 8, .inl mO)), (hmK, .inl (cy 2, 8, .inl mK))] sz) [(hmo, .inr (5, [.int r0.2.1, .ref hmW, .ref hmP, .ref hmS, .ref hmE, .ref hmI, .ref hmO, .ref hmT, .int mN, .ref hmK, .ref hmF, .ref hmH, .ref hmM, .ref hmD, .ref hmR, .ref hmB])), (hmW, .inl (cy 0, 8, .inl r0.2.2.1)), (hmP, .inl (cy 1, 8, .inr (.inl r0.2.2.2.1))), (hmS, .inl (cy 1, 8, .inr (.inl r0.2.2.2.2.1))), (hmE, .inl (cy 1, 8, .inr (.inl r0.2.2.2.2.2.1))), (hmI, .inl (cy 2, 8, .inl r0.2.2.2.2.2.2.1)), (hmO, .inl (cy 2, 8, .inl r0.2.2.2.2.2.2.2.1)), (hmK, .inl (cy 2, 8, .inl r0.2.2.2.2.2.2.2.2))] r0.1) 0 0 (va_A [(hmo, .inr (5, [.int mC, .ref hmW, .ref hmP, .ref hmS, .ref hmE, .ref hmI, .ref hmO, .ref hmT, .int mN, .ref hmK, .ref hmF, .ref hmH, .ref hmM, .ref hmD, .ref hmR, .ref hmB])), (hmW, .inl (cy 0, 8, .inl mW)), (hmP, .inl (cy 1, 8, .inr (.inl mP))), (hmS, .inl (cy 1, 8, .inr (.inl mS))), (hmE, .inl (cy 1, 8, .inr (.inl mE))), (hmI, .inl (cy 2, 8, .inl mI)), (hmO, .inl (cy 2, 8, .inl mO)), (hmK, .inl (cy 2, 8, .inl mK))] sz) := by
  refine Met.ofW (cc := cX6_form) (maxL := 11) (ret := (some .int)) (by decide) rfl ?_
  intro p e s m args below meth c s₁ B hml hv
  obtain ⟨rfl, hsz, hP, hD0, hB⟩ := hv
  have hx := B.exec
  have hb := B.bytes
  have hr := B.returns
  have hts := atoms_spec (ws := wsX6_form) B.pre
  have hown : s.vm.findClass RX6 = some m.cls := findClass_of_methodNamed B.named
  have hlocks := B.notSynchronized
  have hK := hB.1
  have hN := hB.2
  subst hsz
  have hD := hD0.self (sz := s.heap.size)
  have hA : ∀ q : Nat, s.heap.size ≤ q → va_A [(hmo, .inr (5, [.int mC, .ref hmW, .ref hmP, .ref hmS, .ref hmE, .ref hmI, .ref hmO, .ref hmT, .int mN, .ref hmK, .ref hmF, .ref hmH, .ref hmM, .ref hmD, .ref hmR, .ref hmB])), (hmW, .inl (cy 0, 8, .inl mW)), (hmP, .inl (cy 1, 8, .inr (.inl mP))), (hmS, .inl (cy 1, 8, .inr (.inl mS))), (hmE, .inl (cy 1, 8, .inr (.inl mE))), (hmI, .inl (cy 2, 8, .inl mI)), (hmO, .inl (cy 2, 8, .inl mO)), (hmK, .inl (cy 2, 8, .inl mK))] s.heap.size q := fun q h => Or.inr h
  generalize va_A [(hmo, .inr (5, [.int mC, .ref hmW, .ref hmP, .ref hmS, .ref hmE, .ref hmI, .ref hmO, .ref hmT, .int mN, .ref hmK, .ref hmF, .ref hmH, .ref hmM, .ref hmD, .ref hmR, .ref hmB])), (hmW, .inl (cy 0, 8, .inl mW)), (hmP, .inl (cy 1, 8, .inr (.inl mP))), (hmS, .inl (cy 1, 8, .inr (.inl mS))), (hmE, .inl (cy 1, 8, .inr (.inl mE))), (hmI, .inl (cy 2, 8, .inl mI)), (hmO, .inl (cy 2, 8, .inl mO)), (hmK, .inl (cy 2, 8, .inl mK))] s.heap.size = A at hD hA ⊢
  have hS : va_S A s.heap s.heap [] := va_S.rf
  have hl := lv_entry ([.ref hmo, .int x1, .long x2, .long x4, .long x6, .int x8, .int x9]) (n := 11) (Nat.le_of_ble_eq_true rfl)
  rw [lg_entry_eq]
  generalize (lg_sl ([.ref hmo, .int x1, .long x2, .long x4, .long x6, .int x8, .int x9]) ++ List.replicate (11 - (lg_sl ([.ref hmo, .int x1, .long x2, .long x4, .long x6, .int x8, .int x9])).length) Slot.unset).toArray = ls at hl ⊢
  have hl : lv_has ls 11 [(0, .ref hmo), (1, .int x1), (2, .long x2), (4, .long x4), (6, .long x6), (8, .int x8), (9, .int x9)] := hl
  have E0 : En p m c cX6_form 11 s ([.ref hmo, .int x1, .long x2, .long x4, .long x6, .int x8, .int x9] : List Value).toArray wsX6_form RX6 meth (some .int) D cy := ⟨⟨hx, hb, hml, hown, hts⟩, hr, hlocks, hB⟩
  unfold fX6_form at hf
  refine lv_iload_n hx hb dX6_form_0 rfl (lv_at hl 1 rfl) ?_
  refine lv_iconst (v := (3 : Int32)) hx hb dX6_form_1 (by decide) ?_
  refine lv_icmp_lt (tgt := 49) hx hb dX6_form_2 (by decide) (fun c_1 => ?_) (fun c_1 => ?_)
  · have hf := ite_t hf c_1
    refine lv_iconst (v := (0 : Int32)) hx hb dX6_form_49 (by decide) ?_
    refine lv_istore (lv' := [(10, .int (0 : Int32)), (0, .ref hmo), (1, .int x1), (2, .long x2), (4, .long x4), (6, .long x6), (8, .int x8), (9, .int x9)]) hx hb dX6_form_50 hl (by decide) rfl (fun ls hl => ?_)
    refine lv_iload hx hb dX6_form_52 (lv_at hl 0 rfl) ?_
    refine lv_if_ne (tgt := 59) hx hb dX6_form_54 (by decide) (fun c_2 => ?_) (fun c_2 => ?_)
    · exact absurd c_2 (by decide)
    refine lv_iconst (v := (-1 : Int32)) hx hb dX6_form_57 (by decide) ?_
    cases hf
    exact W.iret (v := (-1 : Int32)) hx hb hr (fun t ht hW => ⟨⟨_, (), rfl, rfl, by rw [ht]; exact hP, hD⟩, hS.F ht⟩) hS.2.2 dX6_form_58
  · have hf := ite_f hf c_1
    refine lv_iload_n hx hb dX6_form_5 rfl (lv_at hl 1 rfl) ?_
    refine lv_bipush (v := (32 : Int32)) hx hb dX6_form_6 (by decide) ?_
    refine lv_icmp_gt (tgt := 49) hx hb dX6_form_8 (by decide) (fun c_3 => ?_) (fun c_3 => ?_)
    · have hf := ite_t hf c_3
      refine lv_iconst (v := (0 : Int32)) hx hb dX6_form_49 (by decide) ?_
      refine lv_istore (lv' := [(10, .int (0 : Int32)), (0, .ref hmo), (1, .int x1), (2, .long x2), (4, .long x4), (6, .long x6), (8, .int x8), (9, .int x9)]) hx hb dX6_form_50 hl (by decide) rfl (fun ls hl => ?_)
      refine lv_iload hx hb dX6_form_52 (lv_at hl 0 rfl) ?_
      refine lv_if_ne (tgt := 59) hx hb dX6_form_54 (by decide) (fun c_4 => ?_) (fun c_4 => ?_)
      · exact absurd c_4 (by decide)
      refine lv_iconst (v := (-1 : Int32)) hx hb dX6_form_57 (by decide) ?_
      cases hf
      exact W.iret (v := (-1 : Int32)) hx hb hr (fun t ht hW => ⟨⟨_, (), rfl, rfl, by rw [ht]; exact hP, hD⟩, hS.F ht⟩) hS.2.2 dX6_form_58
    · have hf := ite_f hf c_3
      refine lv_iload_n hx hb dX6_form_11 rfl (lv_at hl 1 rfl) ?_
      refine lv_lload_n hx hb dX6_form_12 rfl (lv_at hl 2 rfl) ?_
      obtain ⟨r_5, h_6, hf⟩ := bind_some hf
      have hP_r_5 : va_P D vwCl [] s.heap := hP.sub [] rfl
      refine cz_i (va_runS (As := [.int x1, .long x2]) (rest := []) ⟨hx, hb, hml, hown, hts⟩ (ctX6_isOf l D cy N   x1 x2 r_5 h_6) (va_cwS 2 hts gX6_form_X6_isOf rfl rfl rfl (by decide +kernel) ⟨Nat.le_of_ble_eq_true rfl, Nat.le_of_ble_eq_true rfl⟩) (preS_rd [.int x1, .long x2] hP_r_5 hB) rfl rfl hl.1 rfl (lv_room (Nat.le_of_ble_eq_true rfl)) dX6_form_13 ⟨Nat.zero_le _, Nat.zero_le _⟩) ?_
      refine lv_if_eq (tgt := 49) hx hb dX6_form_16 (by decide) (fun c_7 => ?_) (fun c_7 => ?_)
      · have hf := ite_t hf c_7
        refine lv_iconst (v := (0 : Int32)) hx hb dX6_form_49 (by decide) ?_
        refine lv_istore (lv' := [(10, .int (0 : Int32)), (0, .ref hmo), (1, .int x1), (2, .long x2), (4, .long x4), (6, .long x6), (8, .int x8), (9, .int x9)]) hx hb dX6_form_50 hl (by decide) rfl (fun ls hl => ?_)
        refine lv_iload hx hb dX6_form_52 (lv_at hl 0 rfl) ?_
        refine lv_if_ne (tgt := 59) hx hb dX6_form_54 (by decide) (fun c_8 => ?_) (fun c_8 => ?_)
        · exact absurd c_8 (by decide)
        refine lv_iconst (v := (-1 : Int32)) hx hb dX6_form_57 (by decide) ?_
        cases hf
        exact W.iret (v := (-1 : Int32)) hx hb hr (fun t ht hW => ⟨⟨_, (), rfl, rfl, by rw [ht]; exact hP, hD⟩, hS.F ht⟩) hS.2.2 dX6_form_58
      · have hf := ite_f hf c_7
        refine lv_lload_n hx hb dX6_form_19 rfl (lv_at hl 2 rfl) ?_
        refine lv_lconst (v := (1 : Int64)) hx hb dX6_form_20 (by decide) ?_
        refine lv_land hx hb dX6_form_21 ?_
        refine lv_lconst (v := (1 : Int64)) hx hb dX6_form_22 (by decide) ?_
        refine zz_lc_ne (tgt := 49) hx hb dX6_form_23 dX6_form_24 (by decide) (fun c_9 => ?_) (fun c_9 => ?_)
        · have hf := ite_f hf c_9
          refine lv_iconst (v := (0 : Int32)) hx hb dX6_form_49 (by decide) ?_
          refine lv_istore (lv' := [(10, .int (0 : Int32)), (0, .ref hmo), (1, .int x1), (2, .long x2), (4, .long x4), (6, .long x6), (8, .int x8), (9, .int x9)]) hx hb dX6_form_50 hl (by decide) rfl (fun ls hl => ?_)
          refine lv_iload hx hb dX6_form_52 (lv_at hl 0 rfl) ?_
          refine lv_if_ne (tgt := 59) hx hb dX6_form_54 (by decide) (fun c_10 => ?_) (fun c_10 => ?_)
          · exact absurd c_10 (by decide)
          refine lv_iconst (v := (-1 : Int32)) hx hb dX6_form_57 (by decide) ?_
          cases hf
          exact W.iret (v := (-1 : Int32)) hx hb hr (fun t ht hW => ⟨⟨_, (), rfl, rfl, by rw [ht]; exact hP, hD⟩, hS.F ht⟩) hS.2.2 dX6_form_58
        · have hf := ite_t hf c_9
          refine lv_iload_n hx hb dX6_form_27 rfl (lv_at hl 1 rfl) ?_
          refine lv_lload hx hb dX6_form_28 (lv_at hl 3 rfl) ?_
          obtain ⟨r_11, h_12, hf⟩ := bind_some hf
          have hP_r_11 : va_P D vwCl [] s.heap := hP.sub [] rfl
          refine cz_i (va_runS (As := [.int x1, .long x4]) (rest := []) ⟨hx, hb, hml, hown, hts⟩ (ctX6_isOf l D cy N   x1 x4 r_11 h_12) (va_cwS 2 hts gX6_form_X6_isOf rfl rfl rfl (by decide +kernel) ⟨Nat.le_of_ble_eq_true rfl, Nat.le_of_ble_eq_true rfl⟩) (preS_rd [.int x1, .long x4] hP_r_11 hB) rfl rfl hl.1 rfl (lv_room (Nat.le_of_ble_eq_true rfl)) dX6_form_30 ⟨Nat.zero_le _, Nat.zero_le _⟩) ?_
          refine lv_if_eq (tgt := 49) hx hb dX6_form_33 (by decide) (fun c_13 => ?_) (fun c_13 => ?_)
          · have hf := ite_t hf c_13
            refine lv_iconst (v := (0 : Int32)) hx hb dX6_form_49 (by decide) ?_
            refine lv_istore (lv' := [(10, .int (0 : Int32)), (0, .ref hmo), (1, .int x1), (2, .long x2), (4, .long x4), (6, .long x6), (8, .int x8), (9, .int x9)]) hx hb dX6_form_50 hl (by decide) rfl (fun ls hl => ?_)
            refine lv_iload hx hb dX6_form_52 (lv_at hl 0 rfl) ?_
            refine lv_if_ne (tgt := 59) hx hb dX6_form_54 (by decide) (fun c_14 => ?_) (fun c_14 => ?_)
            · exact absurd c_14 (by decide)
            refine lv_iconst (v := (-1 : Int32)) hx hb dX6_form_57 (by decide) ?_
            cases hf
            exact W.iret (v := (-1 : Int32)) hx hb hr (fun t ht hW => ⟨⟨_, (), rfl, rfl, by rw [ht]; exact hP, hD⟩, hS.F ht⟩) hS.2.2 dX6_form_58
          · have hf := ite_f hf c_13
            refine lv_iload_n hx hb dX6_form_36 rfl (lv_at hl 1 rfl) ?_
            refine lv_lload hx hb dX6_form_37 (lv_at hl 4 rfl) ?_
            obtain ⟨r_15, h_16, hf⟩ := bind_some hf
            have hP_r_15 : va_P D vwCl [] s.heap := hP.sub [] rfl
            refine cz_i (va_runS (As := [.int x1, .long x6]) (rest := []) ⟨hx, hb, hml, hown, hts⟩ (ctX6_isOf l D cy N   x1 x6 r_15 h_16) (va_cwS 2 hts gX6_form_X6_isOf rfl rfl rfl (by decide +kernel) ⟨Nat.le_of_ble_eq_true rfl, Nat.le_of_ble_eq_true rfl⟩) (preS_rd [.int x1, .long x6] hP_r_15 hB) rfl rfl hl.1 rfl (lv_room (Nat.le_of_ble_eq_true rfl)) dX6_form_39 ⟨Nat.zero_le _, Nat.zero_le _⟩) ?_
            refine lv_if_eq (tgt := 49) hx hb dX6_form_42 (by decide) (fun c_17 => ?_) (fun c_17 => ?_)
            · have hf := ite_t hf c_17
              refine lv_iconst (v := (0 : Int32)) hx hb dX6_form_49 (by decide) ?_
              refine lv_istore (lv' := [(10, .int (0 : Int32)), (0, .ref hmo), (1, .int x1), (2, .long x2), (4, .long x4), (6, .long x6), (8, .int x8), (9, .int x9)]) hx hb dX6_form_50 hl (by decide) rfl (fun ls hl => ?_)
              refine lv_iload hx hb dX6_form_52 (lv_at hl 0 rfl) ?_
              refine lv_if_ne (tgt := 59) hx hb dX6_form_54 (by decide) (fun c_18 => ?_) (fun c_18 => ?_)
              · exact absurd c_18 (by decide)
              refine lv_iconst (v := (-1 : Int32)) hx hb dX6_form_57 (by decide) ?_
              cases hf
              exact W.iret (v := (-1 : Int32)) hx hb hr (fun t ht hW => ⟨⟨_, (), rfl, rfl, by rw [ht]; exact hP, hD⟩, hS.F ht⟩) hS.2.2 dX6_form_58
            · have hf := ite_f hf c_17
              refine lv_iconst (v := (1 : Int32)) hx hb dX6_form_45 (by decide) ?_
              refine lv_goto (tgt := 50) hx hb dX6_form_46 (by decide) ?_
              refine lv_istore (lv' := [(10, .int (1 : Int32)), (0, .ref hmo), (1, .int x1), (2, .long x2), (4, .long x4), (6, .long x6), (8, .int x8), (9, .int x9)]) hx hb dX6_form_50 hl (by decide) rfl (fun ls hl => ?_)
              refine lv_iload hx hb dX6_form_52 (lv_at hl 0 rfl) ?_
              refine lv_if_ne (tgt := 59) hx hb dX6_form_54 (by decide) (fun c_19 => ?_) (fun c_19 => ?_)
              rotate_left
              · exact absurd c_19 (by decide)
              refine lv_aload_n hx hb dX6_form_59 rfl (lv_at hl 1 rfl) ?_
              refine va_get (D := D) (ci := 5) (v := .int mC) (C := RX6) (T := TX6) (N := 16) hx hb hts inX6_form_X6 hown hK hP 0 rfl rfl 0 (by decide) (hts _ mX6_form_0) (fun _ h9 => h9) rfl dX6_form_60 ?_
              refine lv_bipush (v := (8 : Int32)) hx hb dX6_form_63 (by decide) ?_
              refine lv_icmp_ne (tgt := 71) hx hb dX6_form_65 (by decide) (fun c_20 => ?_) (fun c_20 => ?_)
              · have hf := ite_f hf c_20
                refine lv_aload_n hx hb dX6_form_71 rfl (lv_at hl 1 rfl) ?_
                refine va_get (D := D) (ci := 5) (v := .ref hmW) (C := RX6) (T := TX6) (N := 16) hx hb hts inX6_form_X6 hown hK hP 0 rfl rfl 1 (by decide) (hts _ mX6_form_1) (fun _ h9 => h9) rfl dX6_form_72 ?_
                refine lv_aload_n hx hb dX6_form_75 rfl (lv_at hl 1 rfl) ?_
                refine va_get (D := D) (ci := 5) (v := .int mC) (C := RX6) (T := TX6) (N := 16) hx hb hts inX6_form_X6 hown hK hP 0 rfl rfl 0 (by decide) (hts _ mX6_form_0) (fun _ h9 => h9) rfl dX6_form_76 ?_
                refine lv_iload_n hx hb dX6_form_79 rfl (lv_at hl 2 rfl) ?_
                obtain ⟨b_21, hf⟩ := ite_n hf
                refine va_iast hx hb hK hP hD hS 1 0 rfl rfl b_21 dX6_form_80 (fun H22 locs23 hP hD hS => ?_)
                have hP : va_P D vwCl [(hmo, .inr (5, [.int mC, .ref hmW, .ref hmP, .ref hmS, .ref hmE, .ref hmI, .ref hmO, .ref hmT, .int mN, .ref hmK, .ref hmF, .ref hmH, .ref hmM, .ref hmD, .ref hmR, .ref hmB])), (hmW, .inl (cy 0, 8, .inl (upd mW mC.toNatClampNeg x1))), (hmP, .inl (cy 1, 8, .inr (.inl mP))), (hmS, .inl (cy 1, 8, .inr (.inl mS))), (hmE, .inl (cy 1, 8, .inr (.inl mE))), (hmI, .inl (cy 2, 8, .inl mI)), (hmO, .inl (cy 2, 8, .inl mO)), (hmK, .inl (cy 2, 8, .inl mK))] H22 := hP
                have hD : va_D A [(hmo, .inr (5, [.int mC, .ref hmW, .ref hmP, .ref hmS, .ref hmE, .ref hmI, .ref hmO, .ref hmT, .int mN, .ref hmK, .ref hmF, .ref hmH, .ref hmM, .ref hmD, .ref hmR, .ref hmB])), (hmW, .inl (cy 0, 8, .inl (upd mW mC.toNatClampNeg x1))), (hmP, .inl (cy 1, 8, .inr (.inl mP))), (hmS, .inl (cy 1, 8, .inr (.inl mS))), (hmE, .inl (cy 1, 8, .inr (.inl mE))), (hmI, .inl (cy 2, 8, .inl mI)), (hmO, .inl (cy 2, 8, .inl mO)), (hmK, .inl (cy 2, 8, .inl mK))] := hD
                refine lv_aload_n hx hb dX6_form_81 rfl (lv_at hl 1 rfl) ?_
                refine va_get (D := D) (ci := 5) (v := .ref hmP) (C := RX6) (T := TX6) (N := 16) hx hb hts inX6_form_X6 hown hK hP 0 rfl rfl 2 (by decide) (hts _ mX6_form_2) (fun _ h9 => h9) rfl dX6_form_82 ?_
                refine lv_aload_n hx hb dX6_form_85 rfl (lv_at hl 1 rfl) ?_
                refine va_get (D := D) (ci := 5) (v := .int mC) (C := RX6) (T := TX6) (N := 16) hx hb hts inX6_form_X6 hown hK hP 0 rfl rfl 0 (by decide) (hts _ mX6_form_0) (fun _ h9 => h9) rfl dX6_form_86 ?_
                refine lv_lload_n hx hb dX6_form_89 rfl (lv_at hl 3 rfl) ?_
                obtain ⟨b_24, hf⟩ := ite_n hf
                refine va_last hx hb hK hP hD hS 2 1 rfl rfl b_24 dX6_form_90 (fun H25 locs26 hP hD hS => ?_)
                have hP : va_P D vwCl [(hmo, .inr (5, [.int mC, .ref hmW, .ref hmP, .ref hmS, .ref hmE, .ref hmI, .ref hmO, .ref hmT, .int mN, .ref hmK, .ref hmF, .ref hmH, .ref hmM, .ref hmD, .ref hmR, .ref hmB])), (hmW, .inl (cy 0, 8, .inl (upd mW mC.toNatClampNeg x1))), (hmP, .inl (cy 1, 8, .inr (.inl (vp_updL mP mC.toNatClampNeg x2)))), (hmS, .inl (cy 1, 8, .inr (.inl mS))), (hmE, .inl (cy 1, 8, .inr (.inl mE))), (hmI, .inl (cy 2, 8, .inl mI)), (hmO, .inl (cy 2, 8, .inl mO)), (hmK, .inl (cy 2, 8, .inl mK))] H25 := hP
                have hD : va_D A [(hmo, .inr (5, [.int mC, .ref hmW, .ref hmP, .ref hmS, .ref hmE, .ref hmI, .ref hmO, .ref hmT, .int mN, .ref hmK, .ref hmF, .ref hmH, .ref hmM, .ref hmD, .ref hmR, .ref hmB])), (hmW, .inl (cy 0, 8, .inl (upd mW mC.toNatClampNeg x1))), (hmP, .inl (cy 1, 8, .inr (.inl (vp_updL mP mC.toNatClampNeg x2)))), (hmS, .inl (cy 1, 8, .inr (.inl mS))), (hmE, .inl (cy 1, 8, .inr (.inl mE))), (hmI, .inl (cy 2, 8, .inl mI)), (hmO, .inl (cy 2, 8, .inl mO)), (hmK, .inl (cy 2, 8, .inl mK))] := hD
                refine lv_aload_n hx hb dX6_form_91 rfl (lv_at hl 1 rfl) ?_
                refine va_get (D := D) (ci := 5) (v := .ref hmS) (C := RX6) (T := TX6) (N := 16) hx hb hts inX6_form_X6 hown hK hP 0 rfl rfl 3 (by decide) (hts _ mX6_form_3) (fun _ h9 => h9) rfl dX6_form_92 ?_
                refine lv_aload_n hx hb dX6_form_95 rfl (lv_at hl 1 rfl) ?_
                refine va_get (D := D) (ci := 5) (v := .int mC) (C := RX6) (T := TX6) (N := 16) hx hb hts inX6_form_X6 hown hK hP 0 rfl rfl 0 (by decide) (hts _ mX6_form_0) (fun _ h9 => h9) rfl dX6_form_96 ?_
                refine lv_lload hx hb dX6_form_99 (lv_at hl 4 rfl) ?_
                obtain ⟨b_27, hf⟩ := ite_n hf
                refine va_last hx hb hK hP hD hS 3 1 rfl rfl b_27 dX6_form_101 (fun H28 locs29 hP hD hS => ?_)
                have hP : va_P D vwCl [(hmo, .inr (5, [.int mC, .ref hmW, .ref hmP, .ref hmS, .ref hmE, .ref hmI, .ref hmO, .ref hmT, .int mN, .ref hmK, .ref hmF, .ref hmH, .ref hmM, .ref hmD, .ref hmR, .ref hmB])), (hmW, .inl (cy 0, 8, .inl (upd mW mC.toNatClampNeg x1))), (hmP, .inl (cy 1, 8, .inr (.inl (vp_updL mP mC.toNatClampNeg x2)))), (hmS, .inl (cy 1, 8, .inr (.inl (vp_updL mS mC.toNatClampNeg x4)))), (hmE, .inl (cy 1, 8, .inr (.inl mE))), (hmI, .inl (cy 2, 8, .inl mI)), (hmO, .inl (cy 2, 8, .inl mO)), (hmK, .inl (cy 2, 8, .inl mK))] H28 := hP
                have hD : va_D A [(hmo, .inr (5, [.int mC, .ref hmW, .ref hmP, .ref hmS, .ref hmE, .ref hmI, .ref hmO, .ref hmT, .int mN, .ref hmK, .ref hmF, .ref hmH, .ref hmM, .ref hmD, .ref hmR, .ref hmB])), (hmW, .inl (cy 0, 8, .inl (upd mW mC.toNatClampNeg x1))), (hmP, .inl (cy 1, 8, .inr (.inl (vp_updL mP mC.toNatClampNeg x2)))), (hmS, .inl (cy 1, 8, .inr (.inl (vp_updL mS mC.toNatClampNeg x4)))), (hmE, .inl (cy 1, 8, .inr (.inl mE))), (hmI, .inl (cy 2, 8, .inl mI)), (hmO, .inl (cy 2, 8, .inl mO)), (hmK, .inl (cy 2, 8, .inl mK))] := hD
                refine lv_aload_n hx hb dX6_form_102 rfl (lv_at hl 1 rfl) ?_
                refine va_get (D := D) (ci := 5) (v := .ref hmE) (C := RX6) (T := TX6) (N := 16) hx hb hts inX6_form_X6 hown hK hP 0 rfl rfl 4 (by decide) (hts _ mX6_form_4) (fun _ h9 => h9) rfl dX6_form_103 ?_
                refine lv_aload_n hx hb dX6_form_106 rfl (lv_at hl 1 rfl) ?_
                refine va_get (D := D) (ci := 5) (v := .int mC) (C := RX6) (T := TX6) (N := 16) hx hb hts inX6_form_X6 hown hK hP 0 rfl rfl 0 (by decide) (hts _ mX6_form_0) (fun _ h9 => h9) rfl dX6_form_107 ?_
                refine lv_lload hx hb dX6_form_110 (lv_at hl 5 rfl) ?_
                obtain ⟨b_30, hf⟩ := ite_n hf
                refine va_last hx hb hK hP hD hS 4 1 rfl rfl b_30 dX6_form_112 (fun H31 locs32 hP hD hS => ?_)
                have hP : va_P D vwCl [(hmo, .inr (5, [.int mC, .ref hmW, .ref hmP, .ref hmS, .ref hmE, .ref hmI, .ref hmO, .ref hmT, .int mN, .ref hmK, .ref hmF, .ref hmH, .ref hmM, .ref hmD, .ref hmR, .ref hmB])), (hmW, .inl (cy 0, 8, .inl (upd mW mC.toNatClampNeg x1))), (hmP, .inl (cy 1, 8, .inr (.inl (vp_updL mP mC.toNatClampNeg x2)))), (hmS, .inl (cy 1, 8, .inr (.inl (vp_updL mS mC.toNatClampNeg x4)))), (hmE, .inl (cy 1, 8, .inr (.inl (vp_updL mE mC.toNatClampNeg x6)))), (hmI, .inl (cy 2, 8, .inl mI)), (hmO, .inl (cy 2, 8, .inl mO)), (hmK, .inl (cy 2, 8, .inl mK))] H31 := hP
                have hD : va_D A [(hmo, .inr (5, [.int mC, .ref hmW, .ref hmP, .ref hmS, .ref hmE, .ref hmI, .ref hmO, .ref hmT, .int mN, .ref hmK, .ref hmF, .ref hmH, .ref hmM, .ref hmD, .ref hmR, .ref hmB])), (hmW, .inl (cy 0, 8, .inl (upd mW mC.toNatClampNeg x1))), (hmP, .inl (cy 1, 8, .inr (.inl (vp_updL mP mC.toNatClampNeg x2)))), (hmS, .inl (cy 1, 8, .inr (.inl (vp_updL mS mC.toNatClampNeg x4)))), (hmE, .inl (cy 1, 8, .inr (.inl (vp_updL mE mC.toNatClampNeg x6)))), (hmI, .inl (cy 2, 8, .inl mI)), (hmO, .inl (cy 2, 8, .inl mO)), (hmK, .inl (cy 2, 8, .inl mK))] := hD
                refine lv_aload_n hx hb dX6_form_113 rfl (lv_at hl 1 rfl) ?_
                refine va_get (D := D) (ci := 5) (v := .ref hmI) (C := RX6) (T := TX6) (N := 16) hx hb hts inX6_form_X6 hown hK hP 0 rfl rfl 5 (by decide) (hts _ mX6_form_5) (fun _ h9 => h9) rfl dX6_form_114 ?_
                refine lv_aload_n hx hb dX6_form_117 rfl (lv_at hl 1 rfl) ?_
                refine va_get (D := D) (ci := 5) (v := .int mC) (C := RX6) (T := TX6) (N := 16) hx hb hts inX6_form_X6 hown hK hP 0 rfl rfl 0 (by decide) (hts _ mX6_form_0) (fun _ h9 => h9) rfl dX6_form_118 ?_
                refine lv_iload hx hb dX6_form_121 (lv_at hl 6 rfl) ?_
                obtain ⟨b_33, hf⟩ := ite_n hf
                refine va_zast hx hb hK hP hD hS 5 2 rfl rfl b_33 dX6_form_123 (fun H34 locs35 hP hD hS => ?_)
                have hP : va_P D vwCl [(hmo, .inr (5, [.int mC, .ref hmW, .ref hmP, .ref hmS, .ref hmE, .ref hmI, .ref hmO, .ref hmT, .int mN, .ref hmK, .ref hmF, .ref hmH, .ref hmM, .ref hmD, .ref hmR, .ref hmB])), (hmW, .inl (cy 0, 8, .inl (upd mW mC.toNatClampNeg x1))), (hmP, .inl (cy 1, 8, .inr (.inl (vp_updL mP mC.toNatClampNeg x2)))), (hmS, .inl (cy 1, 8, .inr (.inl (vp_updL mS mC.toNatClampNeg x4)))), (hmE, .inl (cy 1, 8, .inr (.inl (vp_updL mE mC.toNatClampNeg x6)))), (hmI, .inl (cy 2, 8, .inl (upd mI mC.toNatClampNeg (vp_nar .boolean x8)))), (hmO, .inl (cy 2, 8, .inl mO)), (hmK, .inl (cy 2, 8, .inl mK))] H34 := hP
                have hD : va_D A [(hmo, .inr (5, [.int mC, .ref hmW, .ref hmP, .ref hmS, .ref hmE, .ref hmI, .ref hmO, .ref hmT, .int mN, .ref hmK, .ref hmF, .ref hmH, .ref hmM, .ref hmD, .ref hmR, .ref hmB])), (hmW, .inl (cy 0, 8, .inl (upd mW mC.toNatClampNeg x1))), (hmP, .inl (cy 1, 8, .inr (.inl (vp_updL mP mC.toNatClampNeg x2)))), (hmS, .inl (cy 1, 8, .inr (.inl (vp_updL mS mC.toNatClampNeg x4)))), (hmE, .inl (cy 1, 8, .inr (.inl (vp_updL mE mC.toNatClampNeg x6)))), (hmI, .inl (cy 2, 8, .inl (upd mI mC.toNatClampNeg (vp_nar .boolean x8)))), (hmO, .inl (cy 2, 8, .inl mO)), (hmK, .inl (cy 2, 8, .inl mK))] := hD
                refine lv_aload_n hx hb dX6_form_124 rfl (lv_at hl 1 rfl) ?_
                refine va_get (D := D) (ci := 5) (v := .ref hmO) (C := RX6) (T := TX6) (N := 16) hx hb hts inX6_form_X6 hown hK hP 0 rfl rfl 6 (by decide) (hts _ mX6_form_6) (fun _ h9 => h9) rfl dX6_form_125 ?_
                refine lv_aload_n hx hb dX6_form_128 rfl (lv_at hl 1 rfl) ?_
                refine va_get (D := D) (ci := 5) (v := .int mC) (C := RX6) (T := TX6) (N := 16) hx hb hts inX6_form_X6 hown hK hP 0 rfl rfl 0 (by decide) (hts _ mX6_form_0) (fun _ h9 => h9) rfl dX6_form_129 ?_
                refine lv_iload hx hb dX6_form_132 (lv_at hl 7 rfl) ?_
                obtain ⟨b_36, hf⟩ := ite_n hf
                refine va_zast hx hb hK hP hD hS 6 2 rfl rfl b_36 dX6_form_134 (fun H37 locs38 hP hD hS => ?_)
                have hP : va_P D vwCl [(hmo, .inr (5, [.int mC, .ref hmW, .ref hmP, .ref hmS, .ref hmE, .ref hmI, .ref hmO, .ref hmT, .int mN, .ref hmK, .ref hmF, .ref hmH, .ref hmM, .ref hmD, .ref hmR, .ref hmB])), (hmW, .inl (cy 0, 8, .inl (upd mW mC.toNatClampNeg x1))), (hmP, .inl (cy 1, 8, .inr (.inl (vp_updL mP mC.toNatClampNeg x2)))), (hmS, .inl (cy 1, 8, .inr (.inl (vp_updL mS mC.toNatClampNeg x4)))), (hmE, .inl (cy 1, 8, .inr (.inl (vp_updL mE mC.toNatClampNeg x6)))), (hmI, .inl (cy 2, 8, .inl (upd mI mC.toNatClampNeg (vp_nar .boolean x8)))), (hmO, .inl (cy 2, 8, .inl (upd mO mC.toNatClampNeg (vp_nar .boolean x9)))), (hmK, .inl (cy 2, 8, .inl mK))] H37 := hP
                have hD : va_D A [(hmo, .inr (5, [.int mC, .ref hmW, .ref hmP, .ref hmS, .ref hmE, .ref hmI, .ref hmO, .ref hmT, .int mN, .ref hmK, .ref hmF, .ref hmH, .ref hmM, .ref hmD, .ref hmR, .ref hmB])), (hmW, .inl (cy 0, 8, .inl (upd mW mC.toNatClampNeg x1))), (hmP, .inl (cy 1, 8, .inr (.inl (vp_updL mP mC.toNatClampNeg x2)))), (hmS, .inl (cy 1, 8, .inr (.inl (vp_updL mS mC.toNatClampNeg x4)))), (hmE, .inl (cy 1, 8, .inr (.inl (vp_updL mE mC.toNatClampNeg x6)))), (hmI, .inl (cy 2, 8, .inl (upd mI mC.toNatClampNeg (vp_nar .boolean x8)))), (hmO, .inl (cy 2, 8, .inl (upd mO mC.toNatClampNeg (vp_nar .boolean x9)))), (hmK, .inl (cy 2, 8, .inl mK))] := hD
                refine lv_aload_n hx hb dX6_form_135 rfl (lv_at hl 1 rfl) ?_
                refine va_get (D := D) (ci := 5) (v := .ref hmK) (C := RX6) (T := TX6) (N := 16) hx hb hts inX6_form_X6 hown hK hP 0 rfl rfl 9 (by decide) (hts _ mX6_form_7) (fun _ h9 => h9) rfl dX6_form_136 ?_
                refine lv_aload_n hx hb dX6_form_139 rfl (lv_at hl 1 rfl) ?_
                refine va_get (D := D) (ci := 5) (v := .int mC) (C := RX6) (T := TX6) (N := 16) hx hb hts inX6_form_X6 hown hK hP 0 rfl rfl 0 (by decide) (hts _ mX6_form_0) (fun _ h9 => h9) rfl dX6_form_140 ?_
                refine lv_iconst (v := (0 : Int32)) hx hb dX6_form_143 (by decide) ?_
                obtain ⟨b_39, hf⟩ := ite_n hf
                refine va_zast hx hb hK hP hD hS 7 2 rfl rfl b_39 dX6_form_144 (fun H40 locs41 hP hD hS => ?_)
                have hP : va_P D vwCl [(hmo, .inr (5, [.int mC, .ref hmW, .ref hmP, .ref hmS, .ref hmE, .ref hmI, .ref hmO, .ref hmT, .int mN, .ref hmK, .ref hmF, .ref hmH, .ref hmM, .ref hmD, .ref hmR, .ref hmB])), (hmW, .inl (cy 0, 8, .inl (upd mW mC.toNatClampNeg x1))), (hmP, .inl (cy 1, 8, .inr (.inl (vp_updL mP mC.toNatClampNeg x2)))), (hmS, .inl (cy 1, 8, .inr (.inl (vp_updL mS mC.toNatClampNeg x4)))), (hmE, .inl (cy 1, 8, .inr (.inl (vp_updL mE mC.toNatClampNeg x6)))), (hmI, .inl (cy 2, 8, .inl (upd mI mC.toNatClampNeg (vp_nar .boolean x8)))), (hmO, .inl (cy 2, 8, .inl (upd mO mC.toNatClampNeg (vp_nar .boolean x9)))), (hmK, .inl (cy 2, 8, .inl (upd mK mC.toNatClampNeg (vp_nar .boolean (0 : Int32)))))] H40 := hP
                have hD : va_D A [(hmo, .inr (5, [.int mC, .ref hmW, .ref hmP, .ref hmS, .ref hmE, .ref hmI, .ref hmO, .ref hmT, .int mN, .ref hmK, .ref hmF, .ref hmH, .ref hmM, .ref hmD, .ref hmR, .ref hmB])), (hmW, .inl (cy 0, 8, .inl (upd mW mC.toNatClampNeg x1))), (hmP, .inl (cy 1, 8, .inr (.inl (vp_updL mP mC.toNatClampNeg x2)))), (hmS, .inl (cy 1, 8, .inr (.inl (vp_updL mS mC.toNatClampNeg x4)))), (hmE, .inl (cy 1, 8, .inr (.inl (vp_updL mE mC.toNatClampNeg x6)))), (hmI, .inl (cy 2, 8, .inl (upd mI mC.toNatClampNeg (vp_nar .boolean x8)))), (hmO, .inl (cy 2, 8, .inl (upd mO mC.toNatClampNeg (vp_nar .boolean x9)))), (hmK, .inl (cy 2, 8, .inl (upd mK mC.toNatClampNeg (vp_nar .boolean (0 : Int32)))))] := hD
                refine lv_aload_n hx hb dX6_form_145 rfl (lv_at hl 1 rfl) ?_
                refine lv_dup hx hb dX6_form_146 rfl ?_
                refine va_get (D := D) (ci := 5) (v := .int mC) (C := RX6) (T := TX6) (N := 16) hx hb hts inX6_form_X6 hown hK hP 0 rfl rfl 0 (by decide) (hts _ mX6_form_0) (fun _ h9 => h9) rfl dX6_form_147 ?_
                refine lv_iconst (v := (1 : Int32)) hx hb dX6_form_150 (by decide) ?_
                refine lv_iadd hx hb dX6_form_151 ?_
                refine va_put (D := D) (ci := 5) (v := .int (mC + (1 : Int32))) (ty := .int) (C := RX6) (T := TX6) (N := 16) hx hb hts inX6_form_X6 tyX6 tyX6_ok nmX6 hown hK hP hD hS 0 rfl rfl 0 (by decide) (hts _ mX6_form_0) (fun _ h9 => h9) rfl (by decide +kernel) rfl rfl (Nat.le_of_ble_eq_true rfl) dX6_form_152 (fun H42 locs43 hP hD hS => ?_)
                have hP : va_P D vwCl [(hmo, .inr (5, [.int (mC + (1 : Int32)), .ref hmW, .ref hmP, .ref hmS, .ref hmE, .ref hmI, .ref hmO, .ref hmT, .int mN, .ref hmK, .ref hmF, .ref hmH, .ref hmM, .ref hmD, .ref hmR, .ref hmB])), (hmW, .inl (cy 0, 8, .inl (upd mW mC.toNatClampNeg x1))), (hmP, .inl (cy 1, 8, .inr (.inl (vp_updL mP mC.toNatClampNeg x2)))), (hmS, .inl (cy 1, 8, .inr (.inl (vp_updL mS mC.toNatClampNeg x4)))), (hmE, .inl (cy 1, 8, .inr (.inl (vp_updL mE mC.toNatClampNeg x6)))), (hmI, .inl (cy 2, 8, .inl (upd mI mC.toNatClampNeg (vp_nar .boolean x8)))), (hmO, .inl (cy 2, 8, .inl (upd mO mC.toNatClampNeg (vp_nar .boolean x9)))), (hmK, .inl (cy 2, 8, .inl (upd mK mC.toNatClampNeg (vp_nar .boolean (0 : Int32)))))] H42 := hP
                have hD : va_D A [(hmo, .inr (5, [.int (mC + (1 : Int32)), .ref hmW, .ref hmP, .ref hmS, .ref hmE, .ref hmI, .ref hmO, .ref hmT, .int mN, .ref hmK, .ref hmF, .ref hmH, .ref hmM, .ref hmD, .ref hmR, .ref hmB])), (hmW, .inl (cy 0, 8, .inl (upd mW mC.toNatClampNeg x1))), (hmP, .inl (cy 1, 8, .inr (.inl (vp_updL mP mC.toNatClampNeg x2)))), (hmS, .inl (cy 1, 8, .inr (.inl (vp_updL mS mC.toNatClampNeg x4)))), (hmE, .inl (cy 1, 8, .inr (.inl (vp_updL mE mC.toNatClampNeg x6)))), (hmI, .inl (cy 2, 8, .inl (upd mI mC.toNatClampNeg (vp_nar .boolean x8)))), (hmO, .inl (cy 2, 8, .inl (upd mO mC.toNatClampNeg (vp_nar .boolean x9)))), (hmK, .inl (cy 2, 8, .inl (upd mK mC.toNatClampNeg (vp_nar .boolean (0 : Int32)))))] := hD
                refine lv_aload_n hx hb dX6_form_155 rfl (lv_at hl 1 rfl) ?_
                refine va_get (D := D) (ci := 5) (v := .int (mC + (1 : Int32))) (C := RX6) (T := TX6) (N := 16) hx hb hts inX6_form_X6 hown hK hP 0 rfl rfl 0 (by decide) (hts _ mX6_form_0) (fun _ h9 => h9) rfl dX6_form_156 ?_
                refine lv_iconst (v := (1 : Int32)) hx hb dX6_form_159 (by decide) ?_
                refine lv_isub hx hb dX6_form_160 ?_
                cases hf
                exact W.iret (v := ((mC + (1 : Int32)) - (1 : Int32))) hx hb hr (fun t ht hW => ⟨⟨_, (), rfl, rfl, by rw [ht]; exact hP, hD⟩, hS.F ht⟩) hS.2.2 dX6_form_161
              · have hf := ite_t hf c_20
                refine lv_bipush (v := (-2 : Int32)) hx hb dX6_form_68 (by decide) ?_
                cases hf
                exact W.iret (v := (-2 : Int32)) hx hb hr (fun t ht hW => ⟨⟨_, (), rfl, rfl, by rw [ht]; exact hP, hD⟩, hS.F ht⟩) hS.2.2 dX6_form_70
/-! SumFormsModel.joined(IJJJ)J -/
abbrev rX6_joined : Room := { frames := 4, cells := 0, slots := 0, locals := 113 }
theorem mX6_joined_0 : Cond.constantLong RX6 91 (-1) ∈ wsX6_joined := by decide +kernel
theorem mX6_joined_1 : Cond.fieldLink RX6 17 "SumFormsModel" "start" "[J" ∈ wsX6_joined := by decide +kernel
theorem inX6_joined_X6 : ∀ w ∈ u_ws RX6 TX6 16, w ∈ wsX6_joined := by decide +kernel
abbrev GX6_joined (p : Program) (l : Launch) (e : Env) (s : State) (m : MethodId) (args : Array Value) (below : List Frame) (meth : Method) (c : Code) (r0 : Int64) (fr : JFrame) : Prop := W p l e (headSpec wsX6_joined rX6_joined).room s m args below meth c s.heap [] 0 0 (MQ below (vp_Sl (fun r => r = r0)) args s 0 0 (fun _ => False)) fr
def fX6_joined (N : Nat) (mC : Int32) (mW : Nat → Int32) (mP : Nat → Int64) (mS : Nat → Int64) (mE : Nat → Int64) (mO : Nat → Int32) (x1 : Int32) (x2 : Int64) (x4 : Int64) (x6 : Int64) : Option (Int64) := ((fX6_isSum N mC mW x1 x2).bind (fun r_1 => (if r_1 = 0 then (some (-1 : Int64)) else ((fX6_isSum N mC mW x1 x4).bind (fun r_4 => (if r_4 = 0 then (some (-1 : Int64)) else ((fX6_isFar N x6).bind (fun r_7 => (if r_7 = 0 then (some (-1 : Int64)) else ((fX6_register N mW mE mO x1 x4).bind (fun r_10 => ((fX6_register N mW mE mO x1 x2).bind (fun r_12 => (if OOB x1 8 then none else ((fX6_moved N mW mP x1 (r_12 ^^^ (mS x1.toNatClampNeg)) x6).bind (fun r_15 => ((fX6_told N mW mE mO x1 (r_10 ^^^ r_15)).bind (fun r_17 => (some r_17)))))))))))))))))))
set_option maxHeartbeats 4000000 in
set_option maxRecDepth 100000 in
theorem ctX6_joined (l : Launch) (D : va_G) (cy : Nat → ClassId) (N : Nat) (hmo hmW hmP hmS hmE hmI hmO hmT hmK hmF hmH hmM hmD hmR hmB : Nat) (mC : Int32) (mN : Int32) (mW : Nat → Int32) (mP : Nat → Int64) (mS : Nat → Int64) (mE : Nat → Int64) (mO : Nat → Int32) (x1 : Int32) (x2 : Int64) (x4 : Int64) (x6 : Int64) (r0 : Int64) (hf : fX6_joined N mC mW mP mS mE mO x1 x2 x4 x6 = some r0) : Met l yX6_joined wsX6_joined rX6_joined (va_Pc [.ref hmo, .int x1, .long x2, .long x4, .long x6] (Rd D cy [(hmo, .inr (5, [.int mC, .ref hmW, .ref hmP, .ref hmS, .ref hmE, .ref hmI, .ref hmO, .ref hmT, .int mN, .ref hmK, .ref hmF, .ref hmH, .ref hmM, .ref hmD, .ref hmR, .ref hmB])), (hmW, .inl (cy 0, 8, .inl mW)), (hmP, .inl (cy 1, 8, .inr (.inl mP))), (hmS, .inl (cy 1, 8, .inr (.inl mS))), (hmE, .inl (cy 1, 8, .inr (.inl mE))), (hmO, .inl (cy 2, 8, .inl mO))])) (vp_Sl (fun r => r = r0)) 0 0 (fun _ => False) := by
  refine Met.ofW (cc := cX6_joined) (maxL := 8) (ret := (some .long)) (by decide) rfl ?_
  intro p e s m args below meth c s₁ B hml hv
  obtain ⟨rfl, hP, hB⟩ := hv
  have hx := B.exec
  have hb := B.bytes
  have hr := B.returns
  have hts := atoms_spec (ws := wsX6_joined) B.pre
  have hown : s.vm.findClass RX6 = some m.cls := findClass_of_methodNamed B.named
  have hlocks := B.notSynchronized
  have hK := hB.1
  have hN := hB.2
  have hl := lv_entry ([.ref hmo, .int x1, .long x2, .long x4, .long x6]) (n := 8) (Nat.le_of_ble_eq_true rfl)
  rw [lg_entry_eq]
  generalize (lg_sl ([.ref hmo, .int x1, .long x2, .long x4, .long x6]) ++ List.replicate (8 - (lg_sl ([.ref hmo, .int x1, .long x2, .long x4, .long x6])).length) Slot.unset).toArray = ls at hl ⊢
  have hl : lv_has ls 8 [(0, .ref hmo), (1, .int x1), (2, .long x2), (4, .long x4), (6, .long x6)] := hl
  have E0 : En p m c cX6_joined 8 s ([.ref hmo, .int x1, .long x2, .long x4, .long x6] : List Value).toArray wsX6_joined RX6 meth (some .long) D cy := ⟨⟨hx, hb, hml, hown, hts⟩, hr, hlocks, hB⟩
  unfold fX6_joined at hf
  refine lv_aload_n hx hb dX6_joined_0 rfl (lv_at hl 0 rfl) ?_
  refine lv_iload_n hx hb dX6_joined_1 rfl (lv_at hl 1 rfl) ?_
  refine lv_lload_n hx hb dX6_joined_2 rfl (lv_at hl 2 rfl) ?_
  obtain ⟨r_1, h_2, hf⟩ := bind_some hf
  have hP_r_1 : va_P D vwCl [(hmo, .inr (5, [.int mC, .ref hmW, .ref hmP, .ref hmS, .ref hmE, .ref hmI, .ref hmO, .ref hmT, .int mN, .ref hmK, .ref hmF, .ref hmH, .ref hmM, .ref hmD, .ref hmR, .ref hmB])), (hmW, .inl (cy 0, 8, .inl mW))] s.heap := hP.sub [0, 1] rfl
  refine cz_i (va_runV (As := [.int x1, .long x2]) (rest := []) ⟨hx, hb, hml, hown, hts⟩ (ctX6_isSum l D cy N hmo hmW hmP hmS hmE hmI hmO hmT hmK hmF hmH hmM hmD hmR hmB mC mN mW x1 x2 r_1 h_2) (cwV 2 hts gX6_joined_X6_isSum rfl rfl rfl (by decide +kernel) ⟨Nat.le_of_ble_eq_true rfl, Nat.le_of_ble_eq_true rfl⟩) (preV_rd (ci := 5) (q0 := 0) [.int x1, .long x2] hP_r_1 hB rfl rfl) rfl rfl hl.1 rfl (lv_room (Nat.le_of_ble_eq_true rfl)) dX6_joined_3 ⟨Nat.zero_le _, Nat.zero_le _⟩) ?_
  refine lv_if_eq (tgt := 27) hx hb dX6_joined_6 (by decide) (fun c_3 => ?_) (fun c_3 => ?_)
  · have hf := ite_t hf c_3
    refine lv_ldc2 (v := (-1 : Int64)) hx hb hown (hts _ mX6_joined_0) dX6_joined_27 ?_
    exact W.lret (v := (-1 : Int64)) hx hb hr (fun t ht hW => ⟨_, rfl, Option.some.inj hf, ht⟩) (fun _ h => absurd h List.not_mem_nil) dX6_joined_30
  · have hf := ite_f hf c_3
    refine lv_aload_n hx hb dX6_joined_9 rfl (lv_at hl 0 rfl) ?_
    refine lv_iload_n hx hb dX6_joined_10 rfl (lv_at hl 1 rfl) ?_
    refine lv_lload hx hb dX6_joined_11 (lv_at hl 3 rfl) ?_
    obtain ⟨r_4, h_5, hf⟩ := bind_some hf
    have hP_r_4 : va_P D vwCl [(hmo, .inr (5, [.int mC, .ref hmW, .ref hmP, .ref hmS, .ref hmE, .ref hmI, .ref hmO, .ref hmT, .int mN, .ref hmK, .ref hmF, .ref hmH, .ref hmM, .ref hmD, .ref hmR, .ref hmB])), (hmW, .inl (cy 0, 8, .inl mW))] s.heap := hP.sub [0, 1] rfl
    refine cz_i (va_runV (As := [.int x1, .long x4]) (rest := []) ⟨hx, hb, hml, hown, hts⟩ (ctX6_isSum l D cy N hmo hmW hmP hmS hmE hmI hmO hmT hmK hmF hmH hmM hmD hmR hmB mC mN mW x1 x4 r_4 h_5) (cwV 2 hts gX6_joined_X6_isSum rfl rfl rfl (by decide +kernel) ⟨Nat.le_of_ble_eq_true rfl, Nat.le_of_ble_eq_true rfl⟩) (preV_rd (ci := 5) (q0 := 0) [.int x1, .long x4] hP_r_4 hB rfl rfl) rfl rfl hl.1 rfl (lv_room (Nat.le_of_ble_eq_true rfl)) dX6_joined_13 ⟨Nat.zero_le _, Nat.zero_le _⟩) ?_
    refine lv_if_eq (tgt := 27) hx hb dX6_joined_16 (by decide) (fun c_6 => ?_) (fun c_6 => ?_)
    · have hf := ite_t hf c_6
      refine lv_ldc2 (v := (-1 : Int64)) hx hb hown (hts _ mX6_joined_0) dX6_joined_27 ?_
      exact W.lret (v := (-1 : Int64)) hx hb hr (fun t ht hW => ⟨_, rfl, Option.some.inj hf, ht⟩) (fun _ h => absurd h List.not_mem_nil) dX6_joined_30
    · have hf := ite_f hf c_6
      refine lv_lload hx hb dX6_joined_19 (lv_at hl 4 rfl) ?_
      obtain ⟨r_7, h_8, hf⟩ := bind_some hf
      have hP_r_7 : va_P D vwCl [] s.heap := hP.sub [] rfl
      refine cz_i (va_runS (As := [.long x6]) (rest := []) ⟨hx, hb, hml, hown, hts⟩ (ctX6_isFar l D cy N   x6 r_7 h_8) (va_cwS 1 hts gX6_joined_X6_isFar rfl rfl rfl (by decide +kernel) ⟨Nat.le_of_ble_eq_true rfl, Nat.le_of_ble_eq_true rfl⟩) (preS_rd [.long x6] hP_r_7 hB) rfl rfl hl.1 rfl (lv_room (Nat.le_of_ble_eq_true rfl)) dX6_joined_21 ⟨Nat.zero_le _, Nat.zero_le _⟩) ?_
      refine lv_if_ne (tgt := 31) hx hb dX6_joined_24 (by decide) (fun c_9 => ?_) (fun c_9 => ?_)
      · have hf := ite_f hf c_9
        refine lv_aload_n hx hb dX6_joined_31 rfl (lv_at hl 0 rfl) ?_
        refine lv_iload_n hx hb dX6_joined_32 rfl (lv_at hl 1 rfl) ?_
        refine lv_aload_n hx hb dX6_joined_33 rfl (lv_at hl 0 rfl) ?_
        refine lv_iload_n hx hb dX6_joined_34 rfl (lv_at hl 1 rfl) ?_
        refine lv_lload hx hb dX6_joined_35 (lv_at hl 3 rfl) ?_
        obtain ⟨r_10, h_11, hf⟩ := bind_some hf
        have hP_r_10 : va_P D vwCl [(hmo, .inr (5, [.int mC, .ref hmW, .ref hmP, .ref hmS, .ref hmE, .ref hmI, .ref hmO, .ref hmT, .int mN, .ref hmK, .ref hmF, .ref hmH, .ref hmM, .ref hmD, .ref hmR, .ref hmB])), (hmW, .inl (cy 0, 8, .inl mW)), (hmE, .inl (cy 1, 8, .inr (.inl mE))), (hmO, .inl (cy 2, 8, .inl mO))] s.heap := hP.sub [0, 1, 4, 5] rfl
        refine cz_l (va_runV (As := [.int x1, .long x4]) (rest := [.int x1, .ref hmo]) ⟨hx, hb, hml, hown, hts⟩ (ctX6_register l D cy N hmo hmW hmP hmS hmE hmI hmO hmT hmK hmF hmH hmM hmD hmR hmB mC mN mW mE mO x1 x4 r_10 h_11) (cwV 2 hts gX6_joined_X6_register rfl rfl rfl (by decide +kernel) ⟨Nat.le_of_ble_eq_true rfl, Nat.le_of_ble_eq_true rfl⟩) (preV_rd (ci := 5) (q0 := 0) [.int x1, .long x4] hP_r_10 hB rfl rfl) rfl rfl hl.1 rfl (lv_room (Nat.le_of_ble_eq_true rfl)) dX6_joined_37 ⟨Nat.zero_le _, Nat.zero_le _⟩) ?_
        refine lv_aload_n hx hb dX6_joined_40 rfl (lv_at hl 0 rfl) ?_
        refine lv_iload_n hx hb dX6_joined_41 rfl (lv_at hl 1 rfl) ?_
        refine lv_aload_n hx hb dX6_joined_42 rfl (lv_at hl 0 rfl) ?_
        refine lv_iload_n hx hb dX6_joined_43 rfl (lv_at hl 1 rfl) ?_
        refine lv_lload_n hx hb dX6_joined_44 rfl (lv_at hl 2 rfl) ?_
        obtain ⟨r_12, h_13, hf⟩ := bind_some hf
        have hP_r_12 : va_P D vwCl [(hmo, .inr (5, [.int mC, .ref hmW, .ref hmP, .ref hmS, .ref hmE, .ref hmI, .ref hmO, .ref hmT, .int mN, .ref hmK, .ref hmF, .ref hmH, .ref hmM, .ref hmD, .ref hmR, .ref hmB])), (hmW, .inl (cy 0, 8, .inl mW)), (hmE, .inl (cy 1, 8, .inr (.inl mE))), (hmO, .inl (cy 2, 8, .inl mO))] s.heap := hP.sub [0, 1, 4, 5] rfl
        refine cz_l (va_runV (As := [.int x1, .long x2]) (rest := [.int x1, .ref hmo, .long r_10, .int x1, .ref hmo]) ⟨hx, hb, hml, hown, hts⟩ (ctX6_register l D cy N hmo hmW hmP hmS hmE hmI hmO hmT hmK hmF hmH hmM hmD hmR hmB mC mN mW mE mO x1 x2 r_12 h_13) (cwV 2 hts gX6_joined_X6_register rfl rfl rfl (by decide +kernel) ⟨Nat.le_of_ble_eq_true rfl, Nat.le_of_ble_eq_true rfl⟩) (preV_rd (ci := 5) (q0 := 0) [.int x1, .long x2] hP_r_12 hB rfl rfl) rfl rfl hl.1 rfl (lv_room (Nat.le_of_ble_eq_true rfl)) dX6_joined_45 ⟨Nat.zero_le _, Nat.zero_le _⟩) ?_
        refine lv_aload_n hx hb dX6_joined_48 rfl (lv_at hl 0 rfl) ?_
        refine va_get (D := D) (ci := 5) (v := .ref hmS) (C := RX6) (T := TX6) (N := 16) hx hb hts inX6_joined_X6 hown hK hP 0 rfl rfl 3 (by decide) (hts _ mX6_joined_1) (fun _ h9 => h9) rfl dX6_joined_49 ?_
        refine lv_iload_n hx hb dX6_joined_52 rfl (lv_at hl 1 rfl) ?_
        obtain ⟨b_14, hf⟩ := ite_n hf
        refine va_lald hx hb hK hP 3 1 rfl rfl b_14 dX6_joined_53 ?_
        refine lv_lxor hx hb dX6_joined_54 ?_
        refine lv_lload hx hb dX6_joined_55 (lv_at hl 4 rfl) ?_
        obtain ⟨r_15, h_16, hf⟩ := bind_some hf
        have hP_r_15 : va_P D vwCl [(hmo, .inr (5, [.int mC, .ref hmW, .ref hmP, .ref hmS, .ref hmE, .ref hmI, .ref hmO, .ref hmT, .int mN, .ref hmK, .ref hmF, .ref hmH, .ref hmM, .ref hmD, .ref hmR, .ref hmB])), (hmW, .inl (cy 0, 8, .inl mW)), (hmP, .inl (cy 1, 8, .inr (.inl mP)))] s.heap := hP.sub [0, 1, 2] rfl
        refine cz_l (va_runV (As := [.int x1, .long (r_12 ^^^ (mS x1.toNatClampNeg)), .long x6]) (rest := [.long r_10, .int x1, .ref hmo]) ⟨hx, hb, hml, hown, hts⟩ (ctX6_moved l D cy N hmo hmW hmP hmS hmE hmI hmO hmT hmK hmF hmH hmM hmD hmR hmB mC mN mW mP x1 (r_12 ^^^ (mS x1.toNatClampNeg)) x6 r_15 h_16) (cwV 3 hts gX6_joined_X6_moved rfl rfl rfl (by decide +kernel) ⟨Nat.le_of_ble_eq_true rfl, Nat.le_of_ble_eq_true rfl⟩) (preV_rd (ci := 5) (q0 := 0) [.int x1, .long (r_12 ^^^ (mS x1.toNatClampNeg)), .long x6] hP_r_15 hB rfl rfl) rfl rfl hl.1 rfl (lv_room (Nat.le_of_ble_eq_true rfl)) dX6_joined_57 ⟨Nat.zero_le _, Nat.zero_le _⟩) ?_
        refine lv_lxor hx hb dX6_joined_60 ?_
        obtain ⟨r_17, h_18, hf⟩ := bind_some hf
        have hP_r_17 : va_P D vwCl [(hmo, .inr (5, [.int mC, .ref hmW, .ref hmP, .ref hmS, .ref hmE, .ref hmI, .ref hmO, .ref hmT, .int mN, .ref hmK, .ref hmF, .ref hmH, .ref hmM, .ref hmD, .ref hmR, .ref hmB])), (hmW, .inl (cy 0, 8, .inl mW)), (hmE, .inl (cy 1, 8, .inr (.inl mE))), (hmO, .inl (cy 2, 8, .inl mO))] s.heap := hP.sub [0, 1, 4, 5] rfl
        refine cz_l (va_runV (As := [.int x1, .long (r_10 ^^^ r_15)]) (rest := []) ⟨hx, hb, hml, hown, hts⟩ (ctX6_told l D cy N hmo hmW hmP hmS hmE hmI hmO hmT hmK hmF hmH hmM hmD hmR hmB mC mN mW mE mO x1 (r_10 ^^^ r_15) r_17 h_18) (cwV 2 hts gX6_joined_X6_told rfl rfl rfl (by decide +kernel) ⟨Nat.le_of_ble_eq_true rfl, Nat.le_of_ble_eq_true rfl⟩) (preV_rd (ci := 5) (q0 := 0) [.int x1, .long (r_10 ^^^ r_15)] hP_r_17 hB rfl rfl) rfl rfl hl.1 rfl (lv_room (Nat.le_of_ble_eq_true rfl)) dX6_joined_61 ⟨Nat.zero_le _, Nat.zero_le _⟩) ?_
        exact W.lret (v := r_17) hx hb hr (fun t ht hW => ⟨_, rfl, Option.some.inj hf, ht⟩) (fun _ h => absurd h List.not_mem_nil) dX6_joined_64
      · have hf := ite_t hf c_9
        refine lv_ldc2 (v := (-1 : Int64)) hx hb hown (hts _ mX6_joined_0) dX6_joined_27 ?_
        exact W.lret (v := (-1 : Int64)) hx hb hr (fun t ht hW => ⟨_, rfl, Option.some.inj hf, ht⟩) (fun _ h => absurd h List.not_mem_nil) dX6_joined_30

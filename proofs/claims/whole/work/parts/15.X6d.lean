/-! SumFormsModel.findOrder(I)J -/
abbrev rX6_findOrder : Room := { frames := 3, cells := 0, slots := 0, locals := 85 }
theorem mX6_findOrder_0 : Cond.fieldLink RX6 42 "SumFormsModel" "many" "[I" ∈ wsX6_findOrder := by decide +kernel
theorem mX6_findOrder_1 : Cond.fieldLink RX6 36 "SumFormsModel" "factor" "[J" ∈ wsX6_findOrder := by decide +kernel
theorem mX6_findOrder_2 : Cond.fieldLink RX6 39 "SumFormsModel" "often" "[I" ∈ wsX6_findOrder := by decide +kernel
theorem mX6_findOrder_3 : Cond.constantLong RX6 131 (2) ∈ wsX6_findOrder := by decide +kernel
theorem inX6_findOrder_X6 : ∀ w ∈ u_ws RX6 TX6 16, w ∈ wsX6_findOrder := by decide +kernel
abbrev GX6_findOrder (p : Program) (l : Launch) (e : Env) (s : State) (m : MethodId) (args : Array Value) (below : List Frame) (meth : Method) (c : Code) (r0 : Int64) (fr : JFrame) : Prop := W p l e (headSpec wsX6_findOrder rX6_findOrder).room s m args below meth c s.heap [] 0 0 (MQ below (vp_Sl (fun r => r = r0)) args s 0 0 (fun _ => False)) fr
def fX6_findOrder_B8 (N : Nat) (mW : Nat → Int32) (mP : Nat → Int64) (mF : Nat → Int64) (mH : Nat → Int32) (mM : Nat → Int32) (x1 : Int32) (self : Int64 → Int32 → Int32 → Option (Int64)) (k : Int64 → Int32 → Option (Int64)) (x2 : Int64) (x4 : Int32) (x5 : Int32) : Option (Int64) := (if OOB x1 8 then none else (if (mM x1.toNatClampNeg) ≤ x5 then (k x2 x4) else (if OOB (((33 : Int32) * x1) + x5) 264 then none else ((fX6_degree N (mF (((33 : Int32) * x1) + x5).toNatClampNeg)).bind (fun r_4 => ((fX6_common N x2 ((lShl (1 : Int64) r_4) - (1 : Int64))).bind (fun r_6 => (if r_6 = 0 then none else (if OOB (((33 : Int32) * x1) + x5) 264 then none else (if (mH (((33 : Int32) * x1) + x5).toNatClampNeg) ≤ x4 then (self ((x2 / r_6) * ((lShl (1 : Int64) r_4) - (1 : Int64))) x4 (x5 + (1 : Int32))) else (if OOB (((33 : Int32) * x1) + x5) 264 then none else (self ((x2 / r_6) * ((lShl (1 : Int64) r_4) - (1 : Int64))) (mH (((33 : Int32) * x1) + x5).toNatClampNeg) (x5 + (1 : Int32))))))))))))))
def fX6_findOrder_L8 (N : Nat) (mW : Nat → Int32) (mP : Nat → Int64) (mF : Nat → Int64) (mH : Nat → Int32) (mM : Nat → Int32) (x1 : Int32) (k : Int64 → Int32 → Option (Int64)) : Nat → Int64 → Int32 → Int32 → Option (Int64)
  | 0 => fun _ _ _ => none
  | n + 1 => fun x2 x4 x5 => fX6_findOrder_B8 N mW mP mF mH mM x1 (fX6_findOrder_L8 N mW mP mF mH mM x1 k n) k x2 x4 x5
def fX6_findOrder_B97 (N : Nat) (mW : Nat → Int32) (mP : Nat → Int64) (mF : Nat → Int64) (mH : Nat → Int32) (mM : Nat → Int32) (x1 : Int32) (x2 : Int64) (x4 : Int32) (self : Int32 → Option (Int64)) (k : Int32 → Option (Int64)) (x5 : Int32) : Option (Int64) := (if x4 ≤ x5 then (k x5) else (self (x5 * (2 : Int32))))
def fX6_findOrder_L97 (N : Nat) (mW : Nat → Int32) (mP : Nat → Int64) (mF : Nat → Int64) (mH : Nat → Int32) (mM : Nat → Int32) (x1 : Int32) (x2 : Int64) (x4 : Int32) (k : Int32 → Option (Int64)) : Nat → Int32 → Option (Int64)
  | 0 => fun _ => none
  | n + 1 => fun x5 => fX6_findOrder_B97 N mW mP mF mH mM x1 x2 x4 (fX6_findOrder_L97 N mW mP mF mH mM x1 x2 x4 k n) k x5
def fX6_findOrder_J152 (N : Nat) (mW : Nat → Int32) (mP : Nat → Int64) (mF : Nat → Int64) (mH : Nat → Int32) (mM : Nat → Int32) (x1 : Int32) (self : Int64 → Int64 → Int64 → Option (Int64)) (x2 : Int64) (x6 : Int64) (y0 : Int64) : Option (Int64) := (if y0 = 0 then none else (if (lRem x6 y0) = (0 : Int64) then (if y0 = 0 then none else ((fX6_up N mW mP x1 (1 : Int64)).bind (fun r_21 => (if y0 = 0 then none else ((fX6_power N mW mP x1 r_21 (x2 / y0)).bind (fun r_24 => (if r_24 = (1 : Int64) then (if y0 = 0 then none else (self (x2 / y0) (x6 / y0) y0)) else (self x2 (x6 / y0) y0)))))))) else (self x2 x6 (y0 + (1 : Int64)))))
def fX6_findOrder_B127 (N : Nat) (mW : Nat → Int32) (mP : Nat → Int64) (mF : Nat → Int64) (mH : Nat → Int32) (mM : Nat → Int32) (x1 : Int32) (self : Int64 → Int64 → Int64 → Option (Int64)) (k : Int64 → Option (Int64)) (x2 : Int64) (x6 : Int64) (x8 : Int64) : Option (Int64) := (if x6 ≤ (1 : Int64) then (k x2) else (if (x8 * x8) ≤ x6 then (fX6_findOrder_J152 N mW mP mF mH mM x1 self x2 x6 x8) else (fX6_findOrder_J152 N mW mP mF mH mM x1 self x2 x6 x6)))
def fX6_findOrder_L127 (N : Nat) (mW : Nat → Int32) (mP : Nat → Int64) (mF : Nat → Int64) (mH : Nat → Int32) (mM : Nat → Int32) (x1 : Int32) (k : Int64 → Option (Int64)) : Nat → Int64 → Int64 → Int64 → Option (Int64)
  | 0 => fun _ _ _ => none
  | n + 1 => fun x2 x6 x8 => fX6_findOrder_B127 N mW mP mF mH mM x1 (fX6_findOrder_L127 N mW mP mF mH mM x1 k n) k x2 x6 x8
def fX6_findOrder (N : Nat) (mW : Nat → Int32) (mP : Nat → Int64) (mF : Nat → Int64) (mH : Nat → Int32) (mM : Nat → Int32) (x1 : Int32) : Option (Int64) := (fX6_findOrder_L8 N mW mP mF mH mM x1 (fun x2_12 x4_13 => (fX6_findOrder_L97 N mW mP mF mH mM x1 x2_12 x4_13 (fun x5_15 => (fX6_findOrder_L127 N mW mP mF mH mM x1 (fun x2_28 => (some x2_28)) N (x2_12 * x5_15.toInt64) (x2_12 * x5_15.toInt64) (2 : Int64))) N (1 : Int32))) N (1 : Int64) (1 : Int32) (0 : Int32))
set_option maxHeartbeats 4000000 in
set_option maxRecDepth 100000 in
theorem wX6_findOrder_B8 {p : Program} {l : Launch} {e : Env} {s : State} {m : MethodId} {args : Array Value} {below : List Frame} {meth : Method} {c : Code} {D : va_G} {cy : Nat → ClassId} {hmo hmW hmP hmS hmE hmI hmO hmT hmK hmF hmH hmM hmD hmR hmB : Nat} {mC : Int32} {mN : Int32} {r0 : Int64} (E0 : En p m c cX6_findOrder 10 s args wsX6_findOrder RX6 meth (some .long) D cy) (N : Nat) (mW : Nat → Int32) (mP : Nat → Int64) (mF : Nat → Int64) (mH : Nat → Int32) (mM : Nat → Int32) (x1 : Int32) (hP : va_P D vwCl [(hmo, .inr (5, [.int mC, .ref hmW, .ref hmP, .ref hmS, .ref hmE, .ref hmI, .ref hmO, .ref hmT, .int mN, .ref hmK, .ref hmF, .ref hmH, .ref hmM, .ref hmD, .ref hmR, .ref hmB])), (hmW, .inl (cy 0, 8, .inl mW)), (hmP, .inl (cy 1, 8, .inr (.inl mP))), (hmF, .inl (cy 1, 264, .inr (.inl mF))), (hmH, .inl (cy 0, 264, .inl mH)), (hmM, .inl (cy 0, 8, .inl mM))] s.heap) (self : Int64 → Int32 → Int32 → Option (Int64)) (hself : ∀ (x2 : Int64) (x4 : Int32) (x5 : Int32) (ls : Array Slot), lv_has ls 10 [(0, .ref hmo), (1, .int x1), (2, .long x2), (4, .int x4), (5, .int x5)] → self x2 x4 x5 = some r0 → GX6_findOrder p l e s m args below meth c r0 (F0 m 8 ls [])) (k : Int64 → Int32 → Option (Int64)) (hk : ∀ (x2 : Int64) (x4 : Int32) (ls : Array Slot), lv_has ls 10 [(0, .ref hmo), (1, .int x1), (2, .long x2), (4, .int x4)] → k x2 x4 = some r0 → GX6_findOrder p l e s m args below meth c r0 (F0 m 94 ls [])) : ∀ (x2 : Int64) (x4 : Int32) (x5 : Int32) (ls : Array Slot), lv_has ls 10 [(0, .ref hmo), (1, .int x1), (2, .long x2), (4, .int x4), (5, .int x5)] → fX6_findOrder_B8 N mW mP mF mH mM x1 self k x2 x4 x5 = some r0 → GX6_findOrder p l e s m args below meth c r0 (F0 m 8 ls []) := by
  obtain ⟨⟨hx, hb, hml, hown, hts⟩, hr, hlocks, hB⟩ := id E0
  have hK := hB.1
  have hN := hB.2
  intro x2 x4 x5 ls hl hf
  unfold fX6_findOrder_B8 at hf
  refine lv_iload hx hb dX6_findOrder_8 (lv_at hl 4 rfl) ?_
  refine lv_aload_n hx hb dX6_findOrder_10 rfl (lv_at hl 0 rfl) ?_
  refine va_get (D := D) (ci := 5) (v := .ref hmM) (C := RX6) (T := TX6) (N := 16) hx hb hts inX6_findOrder_X6 hown hK hP 0 rfl rfl 12 (by decide) (hts _ mX6_findOrder_0) (fun _ h9 => h9) rfl dX6_findOrder_11 ?_
  refine lv_iload_n hx hb dX6_findOrder_14 rfl (lv_at hl 1 rfl) ?_
  obtain ⟨b_1, hf⟩ := ite_n hf
  refine va_iald hx hb hK hP 5 0 rfl rfl b_1 dX6_findOrder_15 ?_
  refine lv_icmp_ge (tgt := 94) hx hb dX6_findOrder_16 (by decide) (fun c_2 => ?_) (fun c_2 => ?_)
  · have hf := ite_t hf c_2
    exact hk _ _ _ (lv_sub hl [0, 1, 2, 3] rfl) hf
  · have hf := ite_f hf c_2
    refine lv_lconst (v := (1 : Int64)) hx hb dX6_findOrder_19 (by decide) ?_
    refine lv_aload_n hx hb dX6_findOrder_20 rfl (lv_at hl 0 rfl) ?_
    refine va_get (D := D) (ci := 5) (v := .ref hmF) (C := RX6) (T := TX6) (N := 16) hx hb hts inX6_findOrder_X6 hown hK hP 0 rfl rfl 10 (by decide) (hts _ mX6_findOrder_1) (fun _ h9 => h9) rfl dX6_findOrder_21 ?_
    refine lv_bipush (v := (33 : Int32)) hx hb dX6_findOrder_24 (by decide) ?_
    refine lv_iload_n hx hb dX6_findOrder_26 rfl (lv_at hl 1 rfl) ?_
    refine lv_imul hx hb dX6_findOrder_27 ?_
    refine lv_iload hx hb dX6_findOrder_28 (lv_at hl 4 rfl) ?_
    refine lv_iadd hx hb dX6_findOrder_30 ?_
    obtain ⟨b_3, hf⟩ := ite_n hf
    refine va_lald hx hb hK hP 3 1 rfl rfl b_3 dX6_findOrder_31 ?_
    obtain ⟨r_4, h_5, hf⟩ := bind_some hf
    have hP_r_4 : va_P D vwCl [] s.heap := hP.sub [] rfl
    refine cz_i (va_runS (As := [.long (mF (((33 : Int32) * x1) + x5).toNatClampNeg)]) (rest := [.long (1 : Int64)]) ⟨hx, hb, hml, hown, hts⟩ (ctX6_degree l D cy N   (mF (((33 : Int32) * x1) + x5).toNatClampNeg) r_4 h_5) (va_cwS 1 hts gX6_findOrder_X6_degree rfl rfl rfl (by decide +kernel) ⟨Nat.le_of_ble_eq_true rfl, Nat.le_of_ble_eq_true rfl⟩) (preS_rd [.long (mF (((33 : Int32) * x1) + x5).toNatClampNeg)] hP_r_4 hB) rfl rfl hl.1 rfl (lv_room (Nat.le_of_ble_eq_true rfl)) dX6_findOrder_32 ⟨Nat.zero_le _, Nat.zero_le _⟩) ?_
    refine zz_lshl hx hb dX6_findOrder_35 ?_
    refine lv_lconst (v := (1 : Int64)) hx hb dX6_findOrder_36 (by decide) ?_
    refine lv_lsub hx hb dX6_findOrder_37 ?_
    refine lv_lstore (lv' := [(6, .long ((lShl (1 : Int64) r_4) - (1 : Int64))), (0, .ref hmo), (1, .int x1), (2, .long x2), (4, .int x4), (5, .int x5)]) hx hb dX6_findOrder_38 hl (by decide) rfl (fun ls hl => ?_)
    refine lv_lload_n hx hb dX6_findOrder_40 rfl (lv_at hl 3 rfl) ?_
    refine lv_lload_n hx hb dX6_findOrder_41 rfl (lv_at hl 3 rfl) ?_
    refine lv_lload hx hb dX6_findOrder_42 (lv_at hl 0 rfl) ?_
    obtain ⟨r_6, h_7, hf⟩ := bind_some hf
    have hP_r_6 : va_P D vwCl [] s.heap := hP.sub [] rfl
    refine cz_l (va_runS (As := [.long x2, .long ((lShl (1 : Int64) r_4) - (1 : Int64))]) (rest := [.long x2]) ⟨hx, hb, hml, hown, hts⟩ (ctX6_common l D cy N   x2 ((lShl (1 : Int64) r_4) - (1 : Int64)) r_6 h_7) (va_cwS 2 hts gX6_findOrder_X6_common rfl rfl rfl (by decide +kernel) ⟨Nat.le_of_ble_eq_true rfl, Nat.le_of_ble_eq_true rfl⟩) (preS_rd [.long x2, .long ((lShl (1 : Int64) r_4) - (1 : Int64))] hP_r_6 hB) rfl rfl hl.1 rfl (lv_room (Nat.le_of_ble_eq_true rfl)) dX6_findOrder_44 ⟨Nat.zero_le _, Nat.zero_le _⟩) ?_
    obtain ⟨z_8, hf⟩ := ite_n hf
    refine lv_ldiv hx hb dX6_findOrder_47 z_8 ?_
    refine lv_lload hx hb dX6_findOrder_48 (lv_at hl 0 rfl) ?_
    refine lv_lmul hx hb dX6_findOrder_50 ?_
    refine lv_lstore_n (lv' := [(2, .long ((x2 / r_6) * ((lShl (1 : Int64) r_4) - (1 : Int64)))), (6, .long ((lShl (1 : Int64) r_4) - (1 : Int64))), (0, .ref hmo), (1, .int x1), (4, .int x4), (5, .int x5)]) hx hb dX6_findOrder_51 rfl hl (by decide) rfl (fun ls hl => ?_)
    refine lv_aload_n hx hb dX6_findOrder_52 rfl (lv_at hl 2 rfl) ?_
    refine va_get (D := D) (ci := 5) (v := .ref hmH) (C := RX6) (T := TX6) (N := 16) hx hb hts inX6_findOrder_X6 hown hK hP 0 rfl rfl 11 (by decide) (hts _ mX6_findOrder_2) (fun _ h9 => h9) rfl dX6_findOrder_53 ?_
    refine lv_bipush (v := (33 : Int32)) hx hb dX6_findOrder_56 (by decide) ?_
    refine lv_iload_n hx hb dX6_findOrder_58 rfl (lv_at hl 3 rfl) ?_
    refine lv_imul hx hb dX6_findOrder_59 ?_
    refine lv_iload hx hb dX6_findOrder_60 (lv_at hl 5 rfl) ?_
    refine lv_iadd hx hb dX6_findOrder_62 ?_
    obtain ⟨b_9, hf⟩ := ite_n hf
    refine va_iald hx hb hK hP 4 0 rfl rfl b_9 dX6_findOrder_63 ?_
    refine lv_iload hx hb dX6_findOrder_64 (lv_at hl 4 rfl) ?_
    refine lv_icmp_le (tgt := 84) hx hb dX6_findOrder_66 (by decide) (fun c_10 => ?_) (fun c_10 => ?_)
    · have hf := ite_t hf c_10
      refine lv_iload hx hb dX6_findOrder_84 (lv_at hl 4 rfl) ?_
      refine lv_istore (lv' := [(4, .int x4), (2, .long ((x2 / r_6) * ((lShl (1 : Int64) r_4) - (1 : Int64)))), (6, .long ((lShl (1 : Int64) r_4) - (1 : Int64))), (0, .ref hmo), (1, .int x1), (5, .int x5)]) hx hb dX6_findOrder_86 hl (by decide) rfl (fun ls hl => ?_)
      refine lv_iinc (v := (x5 + (1 : Int32))) (lv' := [(5, .int (x5 + (1 : Int32))), (4, .int x4), (2, .long ((x2 / r_6) * ((lShl (1 : Int64) r_4) - (1 : Int64)))), (6, .long ((lShl (1 : Int64) r_4) - (1 : Int64))), (0, .ref hmo), (1, .int x1)]) hx hb dX6_findOrder_88 hl (k := 5) rfl rfl (by decide) rfl (fun ls hl => ?_)
      refine lv_goto (tgt := 8) hx hb dX6_findOrder_91 (by decide) ?_
      exact hself _ _ _ _ (lv_sub hl [4, 5, 2, 1, 0] rfl) hf
    · have hf := ite_f hf c_10
      refine lv_aload_n hx hb dX6_findOrder_69 rfl (lv_at hl 2 rfl) ?_
      refine va_get (D := D) (ci := 5) (v := .ref hmH) (C := RX6) (T := TX6) (N := 16) hx hb hts inX6_findOrder_X6 hown hK hP 0 rfl rfl 11 (by decide) (hts _ mX6_findOrder_2) (fun _ h9 => h9) rfl dX6_findOrder_70 ?_
      refine lv_bipush (v := (33 : Int32)) hx hb dX6_findOrder_73 (by decide) ?_
      refine lv_iload_n hx hb dX6_findOrder_75 rfl (lv_at hl 3 rfl) ?_
      refine lv_imul hx hb dX6_findOrder_76 ?_
      refine lv_iload hx hb dX6_findOrder_77 (lv_at hl 5 rfl) ?_
      refine lv_iadd hx hb dX6_findOrder_79 ?_
      obtain ⟨b_11, hf⟩ := ite_n hf
      refine va_iald hx hb hK hP 4 0 rfl rfl b_11 dX6_findOrder_80 ?_
      refine lv_goto (tgt := 86) hx hb dX6_findOrder_81 (by decide) ?_
      refine lv_istore (lv' := [(4, .int (mH (((33 : Int32) * x1) + x5).toNatClampNeg)), (2, .long ((x2 / r_6) * ((lShl (1 : Int64) r_4) - (1 : Int64)))), (6, .long ((lShl (1 : Int64) r_4) - (1 : Int64))), (0, .ref hmo), (1, .int x1), (5, .int x5)]) hx hb dX6_findOrder_86 hl (by decide) rfl (fun ls hl => ?_)
      refine lv_iinc (v := (x5 + (1 : Int32))) (lv' := [(5, .int (x5 + (1 : Int32))), (4, .int (mH (((33 : Int32) * x1) + x5).toNatClampNeg)), (2, .long ((x2 / r_6) * ((lShl (1 : Int64) r_4) - (1 : Int64)))), (6, .long ((lShl (1 : Int64) r_4) - (1 : Int64))), (0, .ref hmo), (1, .int x1)]) hx hb dX6_findOrder_88 hl (k := 5) rfl rfl (by decide) rfl (fun ls hl => ?_)
      refine lv_goto (tgt := 8) hx hb dX6_findOrder_91 (by decide) ?_
      exact hself _ _ _ _ (lv_sub hl [4, 5, 2, 1, 0] rfl) hf
theorem wX6_findOrder_L8 {p : Program} {l : Launch} {e : Env} {s : State} {m : MethodId} {args : Array Value} {below : List Frame} {meth : Method} {c : Code} {D : va_G} {cy : Nat → ClassId} {hmo hmW hmP hmS hmE hmI hmO hmT hmK hmF hmH hmM hmD hmR hmB : Nat} {mC : Int32} {mN : Int32} {r0 : Int64} (E0 : En p m c cX6_findOrder 10 s args wsX6_findOrder RX6 meth (some .long) D cy) (N : Nat) (mW : Nat → Int32) (mP : Nat → Int64) (mF : Nat → Int64) (mH : Nat → Int32) (mM : Nat → Int32) (x1 : Int32) (hP : va_P D vwCl [(hmo, .inr (5, [.int mC, .ref hmW, .ref hmP, .ref hmS, .ref hmE, .ref hmI, .ref hmO, .ref hmT, .int mN, .ref hmK, .ref hmF, .ref hmH, .ref hmM, .ref hmD, .ref hmR, .ref hmB])), (hmW, .inl (cy 0, 8, .inl mW)), (hmP, .inl (cy 1, 8, .inr (.inl mP))), (hmF, .inl (cy 1, 264, .inr (.inl mF))), (hmH, .inl (cy 0, 264, .inl mH)), (hmM, .inl (cy 0, 8, .inl mM))] s.heap) (k : Int64 → Int32 → Option (Int64)) (hk : ∀ (x2 : Int64) (x4 : Int32) (ls : Array Slot), lv_has ls 10 [(0, .ref hmo), (1, .int x1), (2, .long x2), (4, .int x4)] → k x2 x4 = some r0 → GX6_findOrder p l e s m args below meth c r0 (F0 m 94 ls [])) : ∀ (n : Nat), ∀ (x2 : Int64) (x4 : Int32) (x5 : Int32) (ls : Array Slot), lv_has ls 10 [(0, .ref hmo), (1, .int x1), (2, .long x2), (4, .int x4), (5, .int x5)] → fX6_findOrder_L8 N mW mP mF mH mM x1 k n x2 x4 x5 = some r0 → GX6_findOrder p l e s m args below meth c r0 (F0 m 8 ls []) := by
  intro n
  induction n with
  | zero => intro x2 x4 x5 ls hl hf; cases hf
  | succ n ih => exact wX6_findOrder_B8 E0 N mW mP mF mH mM x1 hP _ ih k hk
set_option maxHeartbeats 4000000 in
set_option maxRecDepth 100000 in
theorem wX6_findOrder_B97 {p : Program} {l : Launch} {e : Env} {s : State} {m : MethodId} {args : Array Value} {below : List Frame} {meth : Method} {c : Code} {D : va_G} {cy : Nat → ClassId} {hmo hmW hmP hmS hmE hmI hmO hmT hmK hmF hmH hmM hmD hmR hmB : Nat} {mC : Int32} {mN : Int32} {r0 : Int64} (E0 : En p m c cX6_findOrder 10 s args wsX6_findOrder RX6 meth (some .long) D cy) (N : Nat) (mW : Nat → Int32) (mP : Nat → Int64) (mF : Nat → Int64) (mH : Nat → Int32) (mM : Nat → Int32) (x1 : Int32) (x2 : Int64) (x4 : Int32) (hP : va_P D vwCl [(hmo, .inr (5, [.int mC, .ref hmW, .ref hmP, .ref hmS, .ref hmE, .ref hmI, .ref hmO, .ref hmT, .int mN, .ref hmK, .ref hmF, .ref hmH, .ref hmM, .ref hmD, .ref hmR, .ref hmB])), (hmW, .inl (cy 0, 8, .inl mW)), (hmP, .inl (cy 1, 8, .inr (.inl mP))), (hmF, .inl (cy 1, 264, .inr (.inl mF))), (hmH, .inl (cy 0, 264, .inl mH)), (hmM, .inl (cy 0, 8, .inl mM))] s.heap) (self : Int32 → Option (Int64)) (hself : ∀ (x5 : Int32) (ls : Array Slot), lv_has ls 10 [(0, .ref hmo), (1, .int x1), (2, .long x2), (4, .int x4), (5, .int x5)] → self x5 = some r0 → GX6_findOrder p l e s m args below meth c r0 (F0 m 97 ls [])) (k : Int32 → Option (Int64)) (hk : ∀ (x5 : Int32) (ls : Array Slot), lv_has ls 10 [(0, .ref hmo), (1, .int x1), (2, .long x2), (5, .int x5)] → k x5 = some r0 → GX6_findOrder p l e s m args below meth c r0 (F0 m 113 ls [])) : ∀ (x5 : Int32) (ls : Array Slot), lv_has ls 10 [(0, .ref hmo), (1, .int x1), (2, .long x2), (4, .int x4), (5, .int x5)] → fX6_findOrder_B97 N mW mP mF mH mM x1 x2 x4 self k x5 = some r0 → GX6_findOrder p l e s m args below meth c r0 (F0 m 97 ls []) := by
  obtain ⟨⟨hx, hb, hml, hown, hts⟩, hr, hlocks, hB⟩ := id E0
  have hK := hB.1
  have hN := hB.2
  intro x5 ls hl hf
  unfold fX6_findOrder_B97 at hf
  refine lv_iload hx hb dX6_findOrder_97 (lv_at hl 4 rfl) ?_
  refine lv_iload hx hb dX6_findOrder_99 (lv_at hl 3 rfl) ?_
  refine lv_icmp_ge (tgt := 113) hx hb dX6_findOrder_101 (by decide) (fun c_14 => ?_) (fun c_14 => ?_)
  · have hf := ite_t hf c_14
    exact hk _ _ (lv_sub hl [0, 1, 2, 4] rfl) hf
  · have hf := ite_f hf c_14
    refine lv_iload hx hb dX6_findOrder_104 (lv_at hl 4 rfl) ?_
    refine lv_iconst (v := (2 : Int32)) hx hb dX6_findOrder_106 (by decide) ?_
    refine lv_imul hx hb dX6_findOrder_107 ?_
    refine lv_istore (lv' := [(5, .int (x5 * (2 : Int32))), (0, .ref hmo), (1, .int x1), (2, .long x2), (4, .int x4)]) hx hb dX6_findOrder_108 hl (by decide) rfl (fun ls hl => ?_)
    refine lv_goto (tgt := 97) hx hb dX6_findOrder_110 (by decide) ?_
    exact hself _ _ (lv_sub hl [1, 2, 3, 4, 0] rfl) hf
theorem wX6_findOrder_L97 {p : Program} {l : Launch} {e : Env} {s : State} {m : MethodId} {args : Array Value} {below : List Frame} {meth : Method} {c : Code} {D : va_G} {cy : Nat → ClassId} {hmo hmW hmP hmS hmE hmI hmO hmT hmK hmF hmH hmM hmD hmR hmB : Nat} {mC : Int32} {mN : Int32} {r0 : Int64} (E0 : En p m c cX6_findOrder 10 s args wsX6_findOrder RX6 meth (some .long) D cy) (N : Nat) (mW : Nat → Int32) (mP : Nat → Int64) (mF : Nat → Int64) (mH : Nat → Int32) (mM : Nat → Int32) (x1 : Int32) (x2 : Int64) (x4 : Int32) (hP : va_P D vwCl [(hmo, .inr (5, [.int mC, .ref hmW, .ref hmP, .ref hmS, .ref hmE, .ref hmI, .ref hmO, .ref hmT, .int mN, .ref hmK, .ref hmF, .ref hmH, .ref hmM, .ref hmD, .ref hmR, .ref hmB])), (hmW, .inl (cy 0, 8, .inl mW)), (hmP, .inl (cy 1, 8, .inr (.inl mP))), (hmF, .inl (cy 1, 264, .inr (.inl mF))), (hmH, .inl (cy 0, 264, .inl mH)), (hmM, .inl (cy 0, 8, .inl mM))] s.heap) (k : Int32 → Option (Int64)) (hk : ∀ (x5 : Int32) (ls : Array Slot), lv_has ls 10 [(0, .ref hmo), (1, .int x1), (2, .long x2), (5, .int x5)] → k x5 = some r0 → GX6_findOrder p l e s m args below meth c r0 (F0 m 113 ls [])) : ∀ (n : Nat), ∀ (x5 : Int32) (ls : Array Slot), lv_has ls 10 [(0, .ref hmo), (1, .int x1), (2, .long x2), (4, .int x4), (5, .int x5)] → fX6_findOrder_L97 N mW mP mF mH mM x1 x2 x4 k n x5 = some r0 → GX6_findOrder p l e s m args below meth c r0 (F0 m 97 ls []) := by
  intro n
  induction n with
  | zero => intro x5 ls hl hf; cases hf
  | succ n ih => exact wX6_findOrder_B97 E0 N mW mP mF mH mM x1 x2 x4 hP _ ih k hk
set_option maxHeartbeats 4000000 in
set_option maxRecDepth 100000 in
theorem wX6_findOrder_J152 {p : Program} {l : Launch} {e : Env} {s : State} {m : MethodId} {args : Array Value} {below : List Frame} {meth : Method} {c : Code} {D : va_G} {cy : Nat → ClassId} {hmo hmW hmP hmS hmE hmI hmO hmT hmK hmF hmH hmM hmD hmR hmB : Nat} {mC : Int32} {mN : Int32} {r0 : Int64} (E0 : En p m c cX6_findOrder 10 s args wsX6_findOrder RX6 meth (some .long) D cy) (N : Nat) (mW : Nat → Int32) (mP : Nat → Int64) (mF : Nat → Int64) (mH : Nat → Int32) (mM : Nat → Int32) (x1 : Int32) (hP : va_P D vwCl [(hmo, .inr (5, [.int mC, .ref hmW, .ref hmP, .ref hmS, .ref hmE, .ref hmI, .ref hmO, .ref hmT, .int mN, .ref hmK, .ref hmF, .ref hmH, .ref hmM, .ref hmD, .ref hmR, .ref hmB])), (hmW, .inl (cy 0, 8, .inl mW)), (hmP, .inl (cy 1, 8, .inr (.inl mP))), (hmF, .inl (cy 1, 264, .inr (.inl mF))), (hmH, .inl (cy 0, 264, .inl mH)), (hmM, .inl (cy 0, 8, .inl mM))] s.heap) (self : Int64 → Int64 → Int64 → Option (Int64)) (hself : ∀ (x2 : Int64) (x6 : Int64) (x8 : Int64) (ls : Array Slot), lv_has ls 10 [(0, .ref hmo), (1, .int x1), (2, .long x2), (6, .long x6), (8, .long x8)] → self x2 x6 x8 = some r0 → GX6_findOrder p l e s m args below meth c r0 (F0 m 127 ls [])) : ∀ (x2 : Int64) (x6 : Int64) (y0 : Int64) (ls : Array Slot), lv_has ls 10 [(0, .ref hmo), (1, .int x1), (2, .long x2), (6, .long x6)] → fX6_findOrder_J152 N mW mP mF mH mM x1 self x2 x6 y0 = some r0 → GX6_findOrder p l e s m args below meth c r0 (F0 m 152 ls [.long y0]) := by
  obtain ⟨⟨hx, hb, hml, hown, hts⟩, hr, hlocks, hB⟩ := id E0
  have hK := hB.1
  have hN := hB.2
  intro x2 x6 y0 ls hl hf
  unfold fX6_findOrder_J152 at hf
  refine lv_lstore (lv' := [(8, .long y0), (0, .ref hmo), (1, .int x1), (2, .long x2), (6, .long x6)]) hx hb dX6_findOrder_152 hl (by decide) rfl (fun ls hl => ?_)
  refine lv_lload hx hb dX6_findOrder_154 (lv_at hl 4 rfl) ?_
  refine lv_lload hx hb dX6_findOrder_156 (lv_at hl 0 rfl) ?_
  obtain ⟨z_18, hf⟩ := ite_n hf
  refine zz_lrem hx hb dX6_findOrder_158 z_18 ?_
  refine lv_lconst (v := (0 : Int64)) hx hb dX6_findOrder_159 (by decide) ?_
  refine zz_lc_ne (tgt := 203) hx hb dX6_findOrder_160 dX6_findOrder_161 (by decide) (fun c_19 => ?_) (fun c_19 => ?_)
  · have hf := ite_f hf c_19
    refine lv_lload hx hb dX6_findOrder_203 (lv_at hl 0 rfl) ?_
    refine lv_lconst (v := (1 : Int64)) hx hb dX6_findOrder_205 (by decide) ?_
    refine lv_ladd hx hb dX6_findOrder_206 ?_
    refine lv_lstore (lv' := [(8, .long (y0 + (1 : Int64))), (0, .ref hmo), (1, .int x1), (2, .long x2), (6, .long x6)]) hx hb dX6_findOrder_207 hl (by decide) rfl (fun ls hl => ?_)
    refine lv_goto (tgt := 127) hx hb dX6_findOrder_209 (by decide) ?_
    exact hself _ _ _ _ (lv_sub hl [1, 2, 3, 4, 0] rfl) hf
  · have hf := ite_t hf c_19
    refine lv_lload hx hb dX6_findOrder_164 (lv_at hl 4 rfl) ?_
    refine lv_lload hx hb dX6_findOrder_166 (lv_at hl 0 rfl) ?_
    obtain ⟨z_20, hf⟩ := ite_n hf
    refine lv_ldiv hx hb dX6_findOrder_168 z_20 ?_
    refine lv_lstore (lv' := [(6, .long (x6 / y0)), (8, .long y0), (0, .ref hmo), (1, .int x1), (2, .long x2)]) hx hb dX6_findOrder_169 hl (by decide) rfl (fun ls hl => ?_)
    refine lv_aload_n hx hb dX6_findOrder_171 rfl (lv_at hl 2 rfl) ?_
    refine lv_iload_n hx hb dX6_findOrder_172 rfl (lv_at hl 3 rfl) ?_
    refine lv_aload_n hx hb dX6_findOrder_173 rfl (lv_at hl 2 rfl) ?_
    refine lv_iload_n hx hb dX6_findOrder_174 rfl (lv_at hl 3 rfl) ?_
    refine lv_lconst (v := (1 : Int64)) hx hb dX6_findOrder_175 (by decide) ?_
    obtain ⟨r_21, h_22, hf⟩ := bind_some hf
    have hP_r_21 : va_P D vwCl [(hmo, .inr (5, [.int mC, .ref hmW, .ref hmP, .ref hmS, .ref hmE, .ref hmI, .ref hmO, .ref hmT, .int mN, .ref hmK, .ref hmF, .ref hmH, .ref hmM, .ref hmD, .ref hmR, .ref hmB])), (hmW, .inl (cy 0, 8, .inl mW)), (hmP, .inl (cy 1, 8, .inr (.inl mP)))] s.heap := hP.sub [0, 1, 2] rfl
    refine cz_l (va_runV (As := [.int x1, .long (1 : Int64)]) (rest := [.int x1, .ref hmo]) ⟨hx, hb, hml, hown, hts⟩ (ctX6_up l D cy N hmo hmW hmP hmS hmE hmI hmO hmT hmK hmF hmH hmM hmD hmR hmB mC mN mW mP x1 (1 : Int64) r_21 h_22) (cwV 2 hts gX6_findOrder_X6_up rfl rfl rfl (by decide +kernel) ⟨Nat.le_of_ble_eq_true rfl, Nat.le_of_ble_eq_true rfl⟩) (preV_rd (ci := 5) (q0 := 0) [.int x1, .long (1 : Int64)] hP_r_21 hB rfl rfl) rfl rfl hl.1 rfl (lv_room (Nat.le_of_ble_eq_true rfl)) dX6_findOrder_176 ⟨Nat.zero_le _, Nat.zero_le _⟩) ?_
    refine lv_lload_n hx hb dX6_findOrder_179 rfl (lv_at hl 4 rfl) ?_
    refine lv_lload hx hb dX6_findOrder_180 (lv_at hl 1 rfl) ?_
    obtain ⟨z_23, hf⟩ := ite_n hf
    refine lv_ldiv hx hb dX6_findOrder_182 z_23 ?_
    obtain ⟨r_24, h_25, hf⟩ := bind_some hf
    have hP_r_24 : va_P D vwCl [(hmo, .inr (5, [.int mC, .ref hmW, .ref hmP, .ref hmS, .ref hmE, .ref hmI, .ref hmO, .ref hmT, .int mN, .ref hmK, .ref hmF, .ref hmH, .ref hmM, .ref hmD, .ref hmR, .ref hmB])), (hmW, .inl (cy 0, 8, .inl mW)), (hmP, .inl (cy 1, 8, .inr (.inl mP)))] s.heap := hP.sub [0, 1, 2] rfl
    refine cz_l (va_runV (As := [.int x1, .long r_21, .long (x2 / y0)]) (rest := []) ⟨hx, hb, hml, hown, hts⟩ (ctX6_power l D cy N hmo hmW hmP hmS hmE hmI hmO hmT hmK hmF hmH hmM hmD hmR hmB mC mN mW mP x1 r_21 (x2 / y0) r_24 h_25) (cwV 3 hts gX6_findOrder_X6_power rfl rfl rfl (by decide +kernel) ⟨Nat.le_of_ble_eq_true rfl, Nat.le_of_ble_eq_true rfl⟩) (preV_rd (ci := 5) (q0 := 0) [.int x1, .long r_21, .long (x2 / y0)] hP_r_24 hB rfl rfl) rfl rfl hl.1 rfl (lv_room (Nat.le_of_ble_eq_true rfl)) dX6_findOrder_183 ⟨Nat.zero_le _, Nat.zero_le _⟩) ?_
    refine lv_lconst (v := (1 : Int64)) hx hb dX6_findOrder_186 (by decide) ?_
    refine zz_lc_ne (tgt := 198) hx hb dX6_findOrder_187 dX6_findOrder_188 (by decide) (fun c_26 => ?_) (fun c_26 => ?_)
    · have hf := ite_f hf c_26
      refine lv_lload_n hx hb dX6_findOrder_198 rfl (lv_at hl 4 rfl) ?_
      refine lv_lstore_n (lv' := [(2, .long x2), (6, .long (x6 / y0)), (8, .long y0), (0, .ref hmo), (1, .int x1)]) hx hb dX6_findOrder_199 rfl hl (by decide) rfl (fun ls hl => ?_)
      refine lv_goto (tgt := 127) hx hb dX6_findOrder_200 (by decide) ?_
      exact hself _ _ _ _ (lv_sub hl [3, 4, 0, 1, 2] rfl) hf
    · have hf := ite_t hf c_26
      refine lv_lload_n hx hb dX6_findOrder_191 rfl (lv_at hl 4 rfl) ?_
      refine lv_lload hx hb dX6_findOrder_192 (lv_at hl 1 rfl) ?_
      obtain ⟨z_27, hf⟩ := ite_n hf
      refine lv_ldiv hx hb dX6_findOrder_194 z_27 ?_
      refine lv_goto (tgt := 199) hx hb dX6_findOrder_195 (by decide) ?_
      refine lv_lstore_n (lv' := [(2, .long (x2 / y0)), (6, .long (x6 / y0)), (8, .long y0), (0, .ref hmo), (1, .int x1)]) hx hb dX6_findOrder_199 rfl hl (by decide) rfl (fun ls hl => ?_)
      refine lv_goto (tgt := 127) hx hb dX6_findOrder_200 (by decide) ?_
      exact hself _ _ _ _ (lv_sub hl [3, 4, 0, 1, 2] rfl) hf
set_option maxHeartbeats 4000000 in
set_option maxRecDepth 100000 in
theorem wX6_findOrder_B127 {p : Program} {l : Launch} {e : Env} {s : State} {m : MethodId} {args : Array Value} {below : List Frame} {meth : Method} {c : Code} {D : va_G} {cy : Nat → ClassId} {hmo hmW hmP hmS hmE hmI hmO hmT hmK hmF hmH hmM hmD hmR hmB : Nat} {mC : Int32} {mN : Int32} {r0 : Int64} (E0 : En p m c cX6_findOrder 10 s args wsX6_findOrder RX6 meth (some .long) D cy) (N : Nat) (mW : Nat → Int32) (mP : Nat → Int64) (mF : Nat → Int64) (mH : Nat → Int32) (mM : Nat → Int32) (x1 : Int32) (hP : va_P D vwCl [(hmo, .inr (5, [.int mC, .ref hmW, .ref hmP, .ref hmS, .ref hmE, .ref hmI, .ref hmO, .ref hmT, .int mN, .ref hmK, .ref hmF, .ref hmH, .ref hmM, .ref hmD, .ref hmR, .ref hmB])), (hmW, .inl (cy 0, 8, .inl mW)), (hmP, .inl (cy 1, 8, .inr (.inl mP))), (hmF, .inl (cy 1, 264, .inr (.inl mF))), (hmH, .inl (cy 0, 264, .inl mH)), (hmM, .inl (cy 0, 8, .inl mM))] s.heap) (self : Int64 → Int64 → Int64 → Option (Int64)) (hself : ∀ (x2 : Int64) (x6 : Int64) (x8 : Int64) (ls : Array Slot), lv_has ls 10 [(0, .ref hmo), (1, .int x1), (2, .long x2), (6, .long x6), (8, .long x8)] → self x2 x6 x8 = some r0 → GX6_findOrder p l e s m args below meth c r0 (F0 m 127 ls [])) (k : Int64 → Option (Int64)) (hk : ∀ (x2 : Int64) (ls : Array Slot), lv_has ls 10 [(2, .long x2)] → k x2 = some r0 → GX6_findOrder p l e s m args below meth c r0 (F0 m 212 ls [])) : ∀ (x2 : Int64) (x6 : Int64) (x8 : Int64) (ls : Array Slot), lv_has ls 10 [(0, .ref hmo), (1, .int x1), (2, .long x2), (6, .long x6), (8, .long x8)] → fX6_findOrder_B127 N mW mP mF mH mM x1 self k x2 x6 x8 = some r0 → GX6_findOrder p l e s m args below meth c r0 (F0 m 127 ls []) := by
  obtain ⟨⟨hx, hb, hml, hown, hts⟩, hr, hlocks, hB⟩ := id E0
  have hK := hB.1
  have hN := hB.2
  intro x2 x6 x8 ls hl hf
  unfold fX6_findOrder_B127 at hf
  refine lv_lload hx hb dX6_findOrder_127 (lv_at hl 3 rfl) ?_
  refine lv_lconst (v := (1 : Int64)) hx hb dX6_findOrder_129 (by decide) ?_
  refine zz_lc_le (tgt := 212) hx hb dX6_findOrder_130 dX6_findOrder_131 (by decide) (fun c_16 => ?_) (fun c_16 => ?_)
  · have hf := ite_t hf c_16
    exact hk _ _ (lv_sub hl [2] rfl) hf
  · have hf := ite_f hf c_16
    refine lv_lload hx hb dX6_findOrder_134 (lv_at hl 4 rfl) ?_
    refine lv_lload hx hb dX6_findOrder_136 (lv_at hl 4 rfl) ?_
    refine lv_lmul hx hb dX6_findOrder_138 ?_
    refine lv_lload hx hb dX6_findOrder_139 (lv_at hl 3 rfl) ?_
    refine zz_lc_le (tgt := 150) hx hb dX6_findOrder_141 dX6_findOrder_142 (by decide) (fun c_17 => ?_) (fun c_17 => ?_)
    · have hf := ite_t hf c_17
      refine lv_lload hx hb dX6_findOrder_150 (lv_at hl 4 rfl) ?_
      exact wX6_findOrder_J152 E0 N mW mP mF mH mM x1 hP _ hself _ _ _ _ (lv_sub hl [0, 1, 2, 3] rfl) hf
    · have hf := ite_f hf c_17
      refine lv_lload hx hb dX6_findOrder_145 (lv_at hl 3 rfl) ?_
      refine lv_goto (tgt := 152) hx hb dX6_findOrder_147 (by decide) ?_
      exact wX6_findOrder_J152 E0 N mW mP mF mH mM x1 hP _ hself _ _ _ _ (lv_sub hl [0, 1, 2, 3] rfl) hf
theorem wX6_findOrder_L127 {p : Program} {l : Launch} {e : Env} {s : State} {m : MethodId} {args : Array Value} {below : List Frame} {meth : Method} {c : Code} {D : va_G} {cy : Nat → ClassId} {hmo hmW hmP hmS hmE hmI hmO hmT hmK hmF hmH hmM hmD hmR hmB : Nat} {mC : Int32} {mN : Int32} {r0 : Int64} (E0 : En p m c cX6_findOrder 10 s args wsX6_findOrder RX6 meth (some .long) D cy) (N : Nat) (mW : Nat → Int32) (mP : Nat → Int64) (mF : Nat → Int64) (mH : Nat → Int32) (mM : Nat → Int32) (x1 : Int32) (hP : va_P D vwCl [(hmo, .inr (5, [.int mC, .ref hmW, .ref hmP, .ref hmS, .ref hmE, .ref hmI, .ref hmO, .ref hmT, .int mN, .ref hmK, .ref hmF, .ref hmH, .ref hmM, .ref hmD, .ref hmR, .ref hmB])), (hmW, .inl (cy 0, 8, .inl mW)), (hmP, .inl (cy 1, 8, .inr (.inl mP))), (hmF, .inl (cy 1, 264, .inr (.inl mF))), (hmH, .inl (cy 0, 264, .inl mH)), (hmM, .inl (cy 0, 8, .inl mM))] s.heap) (k : Int64 → Option (Int64)) (hk : ∀ (x2 : Int64) (ls : Array Slot), lv_has ls 10 [(2, .long x2)] → k x2 = some r0 → GX6_findOrder p l e s m args below meth c r0 (F0 m 212 ls [])) : ∀ (n : Nat), ∀ (x2 : Int64) (x6 : Int64) (x8 : Int64) (ls : Array Slot), lv_has ls 10 [(0, .ref hmo), (1, .int x1), (2, .long x2), (6, .long x6), (8, .long x8)] → fX6_findOrder_L127 N mW mP mF mH mM x1 k n x2 x6 x8 = some r0 → GX6_findOrder p l e s m args below meth c r0 (F0 m 127 ls []) := by
  intro n
  induction n with
  | zero => intro x2 x6 x8 ls hl hf; cases hf
  | succ n ih => exact wX6_findOrder_B127 E0 N mW mP mF mH mM x1 hP _ ih k hk
set_option maxHeartbeats 4000000 in
set_option maxRecDepth 100000 in
theorem ctX6_findOrder (l : Launch) (D : va_G) (cy : Nat → ClassId) (N : Nat) (hmo hmW hmP hmS hmE hmI hmO hmT hmK hmF hmH hmM hmD hmR hmB : Nat) (mC : Int32) (mN : Int32) (mW : Nat → Int32) (mP : Nat → Int64) (mF : Nat → Int64) (mH : Nat → Int32) (mM : Nat → Int32) (x1 : Int32) (r0 : Int64) (hf : fX6_findOrder N mW mP mF mH mM x1 = some r0) : Met l yX6_findOrder wsX6_findOrder rX6_findOrder (va_Pc [.ref hmo, .int x1] (Rd D cy [(hmo, .inr (5, [.int mC, .ref hmW, .ref hmP, .ref hmS, .ref hmE, .ref hmI, .ref hmO, .ref hmT, .int mN, .ref hmK, .ref hmF, .ref hmH, .ref hmM, .ref hmD, .ref hmR, .ref hmB])), (hmW, .inl (cy 0, 8, .inl mW)), (hmP, .inl (cy 1, 8, .inr (.inl mP))), (hmF, .inl (cy 1, 264, .inr (.inl mF))), (hmH, .inl (cy 0, 264, .inl mH)), (hmM, .inl (cy 0, 8, .inl mM))])) (vp_Sl (fun r => r = r0)) 0 0 (fun _ => False) := by
  refine Met.ofW (cc := cX6_findOrder) (maxL := 10) (ret := (some .long)) (by decide) rfl ?_
  intro p e s m args below meth c s₁ B hml hv
  obtain ⟨rfl, hP, hB⟩ := hv
  have hx := B.exec
  have hb := B.bytes
  have hr := B.returns
  have hts := atoms_spec (ws := wsX6_findOrder) B.pre
  have hown : s.vm.findClass RX6 = some m.cls := findClass_of_methodNamed B.named
  have hlocks := B.notSynchronized
  have hK := hB.1
  have hN := hB.2
  have hl := lv_entry ([.ref hmo, .int x1]) (n := 10) (Nat.le_of_ble_eq_true rfl)
  rw [lg_entry_eq]
  generalize (lg_sl ([.ref hmo, .int x1]) ++ List.replicate (10 - (lg_sl ([.ref hmo, .int x1])).length) Slot.unset).toArray = ls at hl ⊢
  have hl : lv_has ls 10 [(0, .ref hmo), (1, .int x1)] := hl
  have E0 : En p m c cX6_findOrder 10 s ([.ref hmo, .int x1] : List Value).toArray wsX6_findOrder RX6 meth (some .long) D cy := ⟨⟨hx, hb, hml, hown, hts⟩, hr, hlocks, hB⟩
  unfold fX6_findOrder at hf
  refine lv_lconst (v := (1 : Int64)) hx hb dX6_findOrder_0 (by decide) ?_
  refine lv_lstore_n (lv' := [(2, .long (1 : Int64)), (0, .ref hmo), (1, .int x1)]) hx hb dX6_findOrder_1 rfl hl (by decide) rfl (fun ls hl => ?_)
  refine lv_iconst (v := (1 : Int32)) hx hb dX6_findOrder_2 (by decide) ?_
  refine lv_istore (lv' := [(4, .int (1 : Int32)), (2, .long (1 : Int64)), (0, .ref hmo), (1, .int x1)]) hx hb dX6_findOrder_3 hl (by decide) rfl (fun ls hl => ?_)
  refine lv_iconst (v := (0 : Int32)) hx hb dX6_findOrder_5 (by decide) ?_
  refine lv_istore (lv' := [(5, .int (0 : Int32)), (4, .int (1 : Int32)), (2, .long (1 : Int64)), (0, .ref hmo), (1, .int x1)]) hx hb dX6_findOrder_6 hl (by decide) rfl (fun ls hl => ?_)
  refine wX6_findOrder_L8 E0 N mW mP mF mH mM x1 hP _ (fun x2_12 x4_13 ls hl hf => ?_) N _ _ _ _ (lv_sub hl [3, 4, 2, 1, 0] rfl) hf
  refine lv_iconst (v := (1 : Int32)) hx hb dX6_findOrder_94 (by decide) ?_
  refine lv_istore (lv' := [(5, .int (1 : Int32)), (0, .ref hmo), (1, .int x1), (2, .long x2_12), (4, .int x4_13)]) hx hb dX6_findOrder_95 hl (by decide) rfl (fun ls hl => ?_)
  refine wX6_findOrder_L97 E0 N mW mP mF mH mM x1 x2_12 x4_13 hP _ (fun x5_15 ls hl hf => ?_) N _ _ (lv_sub hl [1, 2, 3, 4, 0] rfl) hf
  refine lv_lload_n hx hb dX6_findOrder_113 rfl (lv_at hl 2 rfl) ?_
  refine lv_iload hx hb dX6_findOrder_114 (lv_at hl 3 rfl) ?_
  refine lv_i2l (v := x5_15.toInt64) hx hb dX6_findOrder_116 rfl ?_
  refine lv_lmul hx hb dX6_findOrder_117 ?_
  refine lv_lstore_n (lv' := [(2, .long (x2_12 * x5_15.toInt64)), (0, .ref hmo), (1, .int x1), (5, .int x5_15)]) hx hb dX6_findOrder_118 rfl hl (by decide) rfl (fun ls hl => ?_)
  refine lv_lload_n hx hb dX6_findOrder_119 rfl (lv_at hl 0 rfl) ?_
  refine lv_lstore (lv' := [(6, .long (x2_12 * x5_15.toInt64)), (2, .long (x2_12 * x5_15.toInt64)), (0, .ref hmo), (1, .int x1), (5, .int x5_15)]) hx hb dX6_findOrder_120 hl (by decide) rfl (fun ls hl => ?_)
  refine lv_ldc2 (v := (2 : Int64)) hx hb hown (hts _ mX6_findOrder_3) dX6_findOrder_122 ?_
  refine lv_lstore (lv' := [(8, .long (2 : Int64)), (6, .long (x2_12 * x5_15.toInt64)), (2, .long (x2_12 * x5_15.toInt64)), (0, .ref hmo), (1, .int x1), (5, .int x5_15)]) hx hb dX6_findOrder_125 hl (by decide) rfl (fun ls hl => ?_)
  refine wX6_findOrder_L127 E0 N mW mP mF mH mM x1 hP _ (fun x2_28 ls hl hf => ?_) N _ _ _ _ (lv_sub hl [3, 4, 2, 1, 0] rfl) hf
  refine lv_lload_n hx hb dX6_findOrder_212 rfl (lv_at hl 0 rfl) ?_
  exact W.lret (v := x2_28) hx hb hr (fun t ht hW => ⟨_, rfl, Option.some.inj hf, ht⟩) (fun _ h => absurd h List.not_mem_nil) dX6_findOrder_213
/-! SumFormsModel.know(I)V -/
abbrev rX6_know : Room := { frames := 4, cells := 0, slots := 0, locals := 114 }
theorem mX6_know_0 : Cond.fieldLink RX6 33 "SumFormsModel" "known" "[Z" ∈ wsX6_know := by decide +kernel
theorem mX6_know_1 : Cond.fieldLink RX6 42 "SumFormsModel" "many" "[I" ∈ wsX6_know := by decide +kernel
theorem mX6_know_2 : Cond.fieldLink RX6 7 "SumFormsModel" "width" "[I" ∈ wsX6_know := by decide +kernel
theorem mX6_know_3 : Cond.fieldLink RX6 13 "SumFormsModel" "poly" "[J" ∈ wsX6_know := by decide +kernel
theorem mX6_know_4 : Cond.constantLong RX6 118 (3) ∈ wsX6_know := by decide +kernel
theorem mX6_know_5 : Cond.constantLong RX6 131 (2) ∈ wsX6_know := by decide +kernel
theorem mX6_know_6 : Cond.fieldLink RX6 36 "SumFormsModel" "factor" "[J" ∈ wsX6_know := by decide +kernel
theorem mX6_know_7 : Cond.fieldLink RX6 39 "SumFormsModel" "often" "[I" ∈ wsX6_know := by decide +kernel
theorem mX6_know_8 : Cond.fieldLink RX6 45 "SumFormsModel" "orders" "[J" ∈ wsX6_know := by decide +kernel
theorem inX6_know_X6 : ∀ w ∈ u_ws RX6 TX6 16, w ∈ wsX6_know := by decide +kernel
abbrev GX6_know (p : Program) (l : Launch) (e : Env) (s : State) (m : MethodId) (args : Array Value) (below : List Frame) (meth : Method) (c : Code) (D : va_G) (cy : Nat → ClassId) (A : Nat → Prop) (hmo : Nat) (hmW : Nat) (hmP : Nat) (hmS : Nat) (hmE : Nat) (hmI : Nat) (hmO : Nat) (hmT : Nat) (hmK : Nat) (hmF : Nat) (hmH : Nat) (hmM : Nat) (hmD : Nat) (hmR : Nat) (hmB : Nat) (mC : Int32) (mN : Int32) (mW : Nat → Int32) (mP : Nat → Int64) (r0 : (Nat → Int32) × (Nat → Int64) × (Nat → Int32) × (Nat → Int32) × (Nat → Int64)) (H : Heap) (locs : List Loc) (fr : JFrame) : Prop := W p l e (headSpec wsX6_know rX6_know).room s m args below meth c H locs 0 0 (MQ below (Qwv D A [(hmo, .inr (5, [.int mC, .ref hmW, .ref hmP, .ref hmS, .ref hmE, .ref hmI, .ref hmO, .ref hmT, .int mN, .ref hmK, .ref hmF, .ref hmH, .ref hmM, .ref hmD, .ref hmR, .ref hmB])), (hmW, .inl (cy 0, 8, .inl mW)), (hmP, .inl (cy 1, 8, .inr (.inl mP))), (hmK, .inl (cy 2, 8, .inl r0.1)), (hmF, .inl (cy 1, 264, .inr (.inl r0.2.1))), (hmH, .inl (cy 0, 264, .inl r0.2.2.1)), (hmM, .inl (cy 0, 8, .inl r0.2.2.2.1)), (hmD, .inl (cy 1, 8, .inr (.inl r0.2.2.2.2)))]) args s 0 0 A) fr
def fX6_know_B78 (N : Nat) (mW : Nat → Int32) (mP : Nat → Int64) (x1 : Int32) (x4 : Int64) (x6 : Int32) (self : (Nat → Int32) → (Nat → Int64) → (Nat → Int32) → (Nat → Int32) → (Nat → Int64) → Int64 → Int32 → Option ((Nat → Int32) × (Nat → Int64) × (Nat → Int32) × (Nat → Int32) × (Nat → Int64))) (k : (Nat → Int32) → (Nat → Int64) → (Nat → Int32) → (Nat → Int32) → (Nat → Int64) → Int64 → Int32 → Option ((Nat → Int32) × (Nat → Int64) × (Nat → Int32) × (Nat → Int32) × (Nat → Int64))) (mK : Nat → Int32) (mF : Nat → Int64) (mH : Nat → Int32) (mM : Nat → Int32) (mD : Nat → Int64) (x2 : Int64) (x7 : Int32) : Option ((Nat → Int32) × (Nat → Int64) × (Nat → Int32) × (Nat → Int32) × (Nat → Int64)) := ((fX6_degree N x2).bind (fun r_17 => (if r_17 < x6 then (k mK mF mH mM mD x2 x7) else ((fX6_rest N x2 x4 x6).bind (fun r_20 => (if r_20 = (0 : Int64) then ((fX6_quotient N x2 x4 x6).bind (fun r_23 => (self mK mF mH mM mD r_23 (x7 + (1 : Int32))))) else (k mK mF mH mM mD x2 x7)))))))
def fX6_know_L78 (N : Nat) (mW : Nat → Int32) (mP : Nat → Int64) (x1 : Int32) (x4 : Int64) (x6 : Int32) (k : (Nat → Int32) → (Nat → Int64) → (Nat → Int32) → (Nat → Int32) → (Nat → Int64) → Int64 → Int32 → Option ((Nat → Int32) × (Nat → Int64) × (Nat → Int32) × (Nat → Int32) × (Nat → Int64))) : Nat → (Nat → Int32) → (Nat → Int64) → (Nat → Int32) → (Nat → Int32) → (Nat → Int64) → Int64 → Int32 → Option ((Nat → Int32) × (Nat → Int64) × (Nat → Int32) × (Nat → Int32) × (Nat → Int64))
  | 0 => fun _ _ _ _ _ _ _ => none
  | n + 1 => fun mK mF mH mM mD x2 x7 => fX6_know_B78 N mW mP x1 x4 x6 (fX6_know_L78 N mW mP x1 x4 x6 k n) k mK mF mH mM mD x2 x7
def fX6_know_J166 (N : Nat) (mW : Nat → Int32) (mP : Nat → Int64) (x1 : Int32) (self : (Nat → Int32) → (Nat → Int64) → (Nat → Int32) → (Nat → Int32) → (Nat → Int64) → Int64 → Int64 → Int32 → Option ((Nat → Int32) × (Nat → Int64) × (Nat → Int32) × (Nat → Int32) × (Nat → Int64))) (mK : Nat → Int32) (mF : Nat → Int64) (mH : Nat → Int32) (mM : Nat → Int32) (mD : Nat → Int64) (x2 : Int64) (x4 : Int64) (x6 : Int32) : Option ((Nat → Int32) × (Nat → Int64) × (Nat → Int32) × (Nat → Int32) × (Nat → Int64)) := (if (lShr (x4 + (2 : Int64)) (x6 + (1 : Int32))) = (0 : Int64) then (self mK mF mH mM mD x2 (x4 + (2 : Int64)) x6) else (self mK mF mH mM mD x2 (x4 + (2 : Int64)) (x6 + (1 : Int32))))
def fX6_know_J75 (N : Nat) (mW : Nat → Int32) (mP : Nat → Int64) (x1 : Int32) (self : (Nat → Int32) → (Nat → Int64) → (Nat → Int32) → (Nat → Int32) → (Nat → Int64) → Int64 → Int64 → Int32 → Option ((Nat → Int32) × (Nat → Int64) × (Nat → Int32) × (Nat → Int32) × (Nat → Int64))) (mK : Nat → Int32) (mF : Nat → Int64) (mH : Nat → Int32) (mM : Nat → Int32) (mD : Nat → Int64) (x2 : Int64) (x4 : Int64) (x6 : Int32) : Option ((Nat → Int32) × (Nat → Int64) × (Nat → Int32) × (Nat → Int32) × (Nat → Int64)) := (fX6_know_L78 N mW mP x1 x4 x6 (fun mK_25 mF_26 mH_27 mM_28 mD_29 x2_30 x7_31 => (if x7_31 ≤ 0 then (fX6_know_J166 N mW mP x1 self mK_25 mF_26 mH_27 mM_28 mD_29 x2_30 x4 x6) else (if OOB x1 8 then none else (if OOB (((33 : Int32) * x1) + (mM_28 x1.toNatClampNeg)) 264 then none else (if OOB x1 8 then none else (if OOB (((33 : Int32) * x1) + (mM_28 x1.toNatClampNeg)) 264 then none else (if OOB x1 8 then none else (if OOB x1 8 then none else (fX6_know_J166 N mW mP x1 self mK_25 (vp_updL mF_26 (((33 : Int32) * x1) + (mM_28 x1.toNatClampNeg)).toNatClampNeg x4) (upd mH_27 (((33 : Int32) * x1) + (mM_28 x1.toNatClampNeg)).toNatClampNeg x7_31) (upd mM_28 x1.toNatClampNeg ((mM_28 x1.toNatClampNeg) + (1 : Int32))) mD_29 x2_30 x4 x6))))))))) N mK mF mH mM mD x2 (0 : Int32))
def fX6_know_B48 (N : Nat) (mW : Nat → Int32) (mP : Nat → Int64) (x1 : Int32) (self : (Nat → Int32) → (Nat → Int64) → (Nat → Int32) → (Nat → Int32) → (Nat → Int64) → Int64 → Int64 → Int32 → Option ((Nat → Int32) × (Nat → Int64) × (Nat → Int32) × (Nat → Int32) × (Nat → Int64))) (k : (Nat → Int32) → (Nat → Int64) → (Nat → Int32) → (Nat → Int32) → (Nat → Int64) → Option ((Nat → Int32) × (Nat → Int64) × (Nat → Int32) × (Nat → Int32) × (Nat → Int64))) (mK : Nat → Int32) (mF : Nat → Int64) (mH : Nat → Int32) (mM : Nat → Int32) (mD : Nat → Int64) (x2 : Int64) (x4 : Int64) (x6 : Int32) : Option ((Nat → Int32) × (Nat → Int64) × (Nat → Int32) × (Nat → Int32) × (Nat → Int64)) := ((fX6_degree N x2).bind (fun r_11 => (if r_11 ≤ 0 then (k mK mF mH mM mD) else ((fX6_degree N x2).bind (fun r_14 => (if ((2 : Int32) * x6) ≤ r_14 then (fX6_know_J75 N mW mP x1 self mK mF mH mM mD x2 x4 x6) else ((fX6_degree N x2).bind (fun r_48 => (fX6_know_J75 N mW mP x1 self mK mF mH mM mD x2 x2 r_48)))))))))
def fX6_know_L48 (N : Nat) (mW : Nat → Int32) (mP : Nat → Int64) (x1 : Int32) (k : (Nat → Int32) → (Nat → Int64) → (Nat → Int32) → (Nat → Int32) → (Nat → Int64) → Option ((Nat → Int32) × (Nat → Int64) × (Nat → Int32) × (Nat → Int32) × (Nat → Int64))) : Nat → (Nat → Int32) → (Nat → Int64) → (Nat → Int32) → (Nat → Int32) → (Nat → Int64) → Int64 → Int64 → Int32 → Option ((Nat → Int32) × (Nat → Int64) × (Nat → Int32) × (Nat → Int32) × (Nat → Int64))
  | 0 => fun _ _ _ _ _ _ _ _ => none
  | n + 1 => fun mK mF mH mM mD x2 x4 x6 => fX6_know_B48 N mW mP x1 (fX6_know_L48 N mW mP x1 k n) k mK mF mH mM mD x2 x4 x6
def fX6_know (N : Nat) (mW : Nat → Int32) (mP : Nat → Int64) (mK : Nat → Int32) (mF : Nat → Int64) (mH : Nat → Int32) (mM : Nat → Int32) (mD : Nat → Int64) (x1 : Int32) : Option ((Nat → Int32) × (Nat → Int64) × (Nat → Int32) × (Nat → Int32) × (Nat → Int64)) := (if OOB x1 8 then none else (if (mK x1.toNatClampNeg) = 0 then (if OOB x1 8 then none else (if OOB x1 8 then none else (if OOB x1 8 then none else (if OOB x1 8 then none else (fX6_know_L48 N mW mP x1 (fun mK_50 mF_51 mH_52 mM_53 mD_54 => ((fX6_findOrder N mW mP mF_51 mH_52 mM_53 x1).bind (fun r_57 => (if OOB x1 8 then none else (some (mK_50, mF_51, mH_52, mM_53, (vp_updL mD_54 x1.toNatClampNeg r_57))))))) N (upd mK x1.toNatClampNeg (vp_nar .boolean (1 : Int32))) mF mH (upd mM x1.toNatClampNeg (0 : Int32)) mD ((lShl (1 : Int64) (mW x1.toNatClampNeg)) ||| (mP x1.toNatClampNeg)) (3 : Int64) (1 : Int32)))))) else (some (mK, mF, mH, mM, mD))))
set_option maxHeartbeats 4000000 in
set_option maxRecDepth 100000 in
theorem wX6_know_B78 {p : Program} {l : Launch} {e : Env} {s : State} {m : MethodId} {args : Array Value} {below : List Frame} {meth : Method} {c : Code} {D : va_G} {cy : Nat → ClassId} {A : Nat → Prop} {hmo hmW hmP hmS hmE hmI hmO hmT hmK hmF hmH hmM hmD hmR hmB : Nat} {mC : Int32} {mN : Int32} {r0 : (Nat → Int32) × (Nat → Int64) × (Nat → Int32) × (Nat → Int32) × (Nat → Int64)} (E0 : En p m c cX6_know 8 s args wsX6_know RX6 meth none D cy) (N : Nat) (mW : Nat → Int32) (mP : Nat → Int64) (x1 : Int32) (x4 : Int64) (x6 : Int32) (hA : ∀ q, s.heap.size ≤ q → A q) (self : (Nat → Int32) → (Nat → Int64) → (Nat → Int32) → (Nat → Int32) → (Nat → Int64) → Int64 → Int32 → Option ((Nat → Int32) × (Nat → Int64) × (Nat → Int32) × (Nat → Int32) × (Nat → Int64))) (hself : ∀ (mK : Nat → Int32) (mF : Nat → Int64) (mH : Nat → Int32) (mM : Nat → Int32) (mD : Nat → Int64) (x2 : Int64) (x7 : Int32) (H : Heap) (locs : List Loc) (ls : Array Slot), va_P D vwCl [(hmo, .inr (5, [.int mC, .ref hmW, .ref hmP, .ref hmS, .ref hmE, .ref hmI, .ref hmO, .ref hmT, .int mN, .ref hmK, .ref hmF, .ref hmH, .ref hmM, .ref hmD, .ref hmR, .ref hmB])), (hmW, .inl (cy 0, 8, .inl mW)), (hmP, .inl (cy 1, 8, .inr (.inl mP))), (hmK, .inl (cy 2, 8, .inl mK)), (hmF, .inl (cy 1, 264, .inr (.inl mF))), (hmH, .inl (cy 0, 264, .inl mH)), (hmM, .inl (cy 0, 8, .inl mM)), (hmD, .inl (cy 1, 8, .inr (.inl mD)))] H → va_D A [(hmo, .inr (5, [.int mC, .ref hmW, .ref hmP, .ref hmS, .ref hmE, .ref hmI, .ref hmO, .ref hmT, .int mN, .ref hmK, .ref hmF, .ref hmH, .ref hmM, .ref hmD, .ref hmR, .ref hmB])), (hmW, .inl (cy 0, 8, .inl mW)), (hmP, .inl (cy 1, 8, .inr (.inl mP))), (hmK, .inl (cy 2, 8, .inl mK)), (hmF, .inl (cy 1, 264, .inr (.inl mF))), (hmH, .inl (cy 0, 264, .inl mH)), (hmM, .inl (cy 0, 8, .inl mM)), (hmD, .inl (cy 1, 8, .inr (.inl mD)))] → va_S A s.heap H locs → lv_has ls 8 [(0, .ref hmo), (1, .int x1), (2, .long x2), (4, .long x4), (6, .int x6), (7, .int x7)] → self mK mF mH mM mD x2 x7 = some r0 → GX6_know p l e s m args below meth c D cy A hmo hmW hmP hmS hmE hmI hmO hmT hmK hmF hmH hmM hmD hmR hmB mC mN mW mP r0 H locs (F0 m 78 ls [])) (k : (Nat → Int32) → (Nat → Int64) → (Nat → Int32) → (Nat → Int32) → (Nat → Int64) → Int64 → Int32 → Option ((Nat → Int32) × (Nat → Int64) × (Nat → Int32) × (Nat → Int32) × (Nat → Int64))) (hk : ∀ (mK : Nat → Int32) (mF : Nat → Int64) (mH : Nat → Int32) (mM : Nat → Int32) (mD : Nat → Int64) (x2 : Int64) (x7 : Int32) (H : Heap) (locs : List Loc) (ls : Array Slot), va_P D vwCl [(hmo, .inr (5, [.int mC, .ref hmW, .ref hmP, .ref hmS, .ref hmE, .ref hmI, .ref hmO, .ref hmT, .int mN, .ref hmK, .ref hmF, .ref hmH, .ref hmM, .ref hmD, .ref hmR, .ref hmB])), (hmW, .inl (cy 0, 8, .inl mW)), (hmP, .inl (cy 1, 8, .inr (.inl mP))), (hmK, .inl (cy 2, 8, .inl mK)), (hmF, .inl (cy 1, 264, .inr (.inl mF))), (hmH, .inl (cy 0, 264, .inl mH)), (hmM, .inl (cy 0, 8, .inl mM)), (hmD, .inl (cy 1, 8, .inr (.inl mD)))] H → va_D A [(hmo, .inr (5, [.int mC, .ref hmW, .ref hmP, .ref hmS, .ref hmE, .ref hmI, .ref hmO, .ref hmT, .int mN, .ref hmK, .ref hmF, .ref hmH, .ref hmM, .ref hmD, .ref hmR, .ref hmB])), (hmW, .inl (cy 0, 8, .inl mW)), (hmP, .inl (cy 1, 8, .inr (.inl mP))), (hmK, .inl (cy 2, 8, .inl mK)), (hmF, .inl (cy 1, 264, .inr (.inl mF))), (hmH, .inl (cy 0, 264, .inl mH)), (hmM, .inl (cy 0, 8, .inl mM)), (hmD, .inl (cy 1, 8, .inr (.inl mD)))] → va_S A s.heap H locs → lv_has ls 8 [(0, .ref hmo), (1, .int x1), (2, .long x2), (4, .long x4), (6, .int x6), (7, .int x7)] → k mK mF mH mM mD x2 x7 = some r0 → GX6_know p l e s m args below meth c D cy A hmo hmW hmP hmS hmE hmI hmO hmT hmK hmF hmH hmM hmD hmR hmB mC mN mW mP r0 H locs (F0 m 115 ls [])) : ∀ (mK : Nat → Int32) (mF : Nat → Int64) (mH : Nat → Int32) (mM : Nat → Int32) (mD : Nat → Int64) (x2 : Int64) (x7 : Int32) (H : Heap) (locs : List Loc) (ls : Array Slot), va_P D vwCl [(hmo, .inr (5, [.int mC, .ref hmW, .ref hmP, .ref hmS, .ref hmE, .ref hmI, .ref hmO, .ref hmT, .int mN, .ref hmK, .ref hmF, .ref hmH, .ref hmM, .ref hmD, .ref hmR, .ref hmB])), (hmW, .inl (cy 0, 8, .inl mW)), (hmP, .inl (cy 1, 8, .inr (.inl mP))), (hmK, .inl (cy 2, 8, .inl mK)), (hmF, .inl (cy 1, 264, .inr (.inl mF))), (hmH, .inl (cy 0, 264, .inl mH)), (hmM, .inl (cy 0, 8, .inl mM)), (hmD, .inl (cy 1, 8, .inr (.inl mD)))] H → va_D A [(hmo, .inr (5, [.int mC, .ref hmW, .ref hmP, .ref hmS, .ref hmE, .ref hmI, .ref hmO, .ref hmT, .int mN, .ref hmK, .ref hmF, .ref hmH, .ref hmM, .ref hmD, .ref hmR, .ref hmB])), (hmW, .inl (cy 0, 8, .inl mW)), (hmP, .inl (cy 1, 8, .inr (.inl mP))), (hmK, .inl (cy 2, 8, .inl mK)), (hmF, .inl (cy 1, 264, .inr (.inl mF))), (hmH, .inl (cy 0, 264, .inl mH)), (hmM, .inl (cy 0, 8, .inl mM)), (hmD, .inl (cy 1, 8, .inr (.inl mD)))] → va_S A s.heap H locs → lv_has ls 8 [(0, .ref hmo), (1, .int x1), (2, .long x2), (4, .long x4), (6, .int x6), (7, .int x7)] → fX6_know_B78 N mW mP x1 x4 x6 self k mK mF mH mM mD x2 x7 = some r0 → GX6_know p l e s m args below meth c D cy A hmo hmW hmP hmS hmE hmI hmO hmT hmK hmF hmH hmM hmD hmR hmB mC mN mW mP r0 H locs (F0 m 78 ls []) := by
  obtain ⟨⟨hx, hb, hml, hown, hts⟩, hr, hlocks, hB⟩ := id E0
  have hK := hB.1
  have hN := hB.2
  intro mK mF mH mM mD x2 x7 H locs ls hP hD hS hl hf
  unfold fX6_know_B78 at hf
  refine lv_lload_n hx hb dX6_know_78 rfl (lv_at hl 2 rfl) ?_
  obtain ⟨r_17, h_18, hf⟩ := bind_some hf
  have hP_r_17 : va_P D vwCl [] H := hP.sub [] rfl
  refine cz_i (va_runS (As := [.long x2]) (rest := []) ⟨hx, hb, hml, hown, hts⟩ (ctX6_degree l D cy N   x2 r_17 h_18) (va_cwS 1 hts gX6_know_X6_degree rfl rfl rfl (by decide +kernel) ⟨Nat.le_of_ble_eq_true rfl, Nat.le_of_ble_eq_true rfl⟩) (preS_rd [.long x2] hP_r_17 hB) rfl rfl hl.1 rfl (lv_room (Nat.le_of_ble_eq_true rfl)) dX6_know_79 ⟨Nat.zero_le _, Nat.zero_le _⟩) ?_
  refine lv_iload hx hb dX6_know_82 (lv_at hl 4 rfl) ?_
  refine lv_icmp_lt (tgt := 115) hx hb dX6_know_84 (by decide) (fun c_19 => ?_) (fun c_19 => ?_)
  · have hf := ite_t hf c_19
    exact hk _ _ _ _ _ _ _ _ _ _ hP hD hS (lv_sub hl [0, 1, 2, 3, 4, 5] rfl) hf
  · have hf := ite_f hf c_19
    refine lv_lload_n hx hb dX6_know_87 rfl (lv_at hl 2 rfl) ?_
    refine lv_lload hx hb dX6_know_88 (lv_at hl 3 rfl) ?_
    refine lv_iload hx hb dX6_know_90 (lv_at hl 4 rfl) ?_
    obtain ⟨r_20, h_21, hf⟩ := bind_some hf
    have hP_r_20 : va_P D vwCl [] H := hP.sub [] rfl
    refine cz_l (va_runS (As := [.long x2, .long x4, .int x6]) (rest := []) ⟨hx, hb, hml, hown, hts⟩ (ctX6_rest l D cy N   x2 x4 x6 r_20 h_21) (va_cwS 3 hts gX6_know_X6_rest rfl rfl rfl (by decide +kernel) ⟨Nat.le_of_ble_eq_true rfl, Nat.le_of_ble_eq_true rfl⟩) (preS_rd [.long x2, .long x4, .int x6] hP_r_20 hB) rfl rfl hl.1 rfl (lv_room (Nat.le_of_ble_eq_true rfl)) dX6_know_92 ⟨Nat.zero_le _, Nat.zero_le _⟩) ?_
    refine lv_lconst (v := (0 : Int64)) hx hb dX6_know_95 (by decide) ?_
    refine zz_lc_ne (tgt := 115) hx hb dX6_know_96 dX6_know_97 (by decide) (fun c_22 => ?_) (fun c_22 => ?_)
    · have hf := ite_f hf c_22
      exact hk _ _ _ _ _ _ _ _ _ _ hP hD hS (lv_sub hl [0, 1, 2, 3, 4, 5] rfl) hf
    · have hf := ite_t hf c_22
      refine lv_lload_n hx hb dX6_know_100 rfl (lv_at hl 2 rfl) ?_
      refine lv_lload hx hb dX6_know_101 (lv_at hl 3 rfl) ?_
      refine lv_iload hx hb dX6_know_103 (lv_at hl 4 rfl) ?_
      obtain ⟨r_23, h_24, hf⟩ := bind_some hf
      have hP_r_23 : va_P D vwCl [] H := hP.sub [] rfl
      refine cz_l (va_runS (As := [.long x2, .long x4, .int x6]) (rest := []) ⟨hx, hb, hml, hown, hts⟩ (ctX6_quotient l D cy N   x2 x4 x6 r_23 h_24) (va_cwS 3 hts gX6_know_X6_quotient rfl rfl rfl (by decide +kernel) ⟨Nat.le_of_ble_eq_true rfl, Nat.le_of_ble_eq_true rfl⟩) (preS_rd [.long x2, .long x4, .int x6] hP_r_23 hB) rfl rfl hl.1 rfl (lv_room (Nat.le_of_ble_eq_true rfl)) dX6_know_105 ⟨Nat.zero_le _, Nat.zero_le _⟩) ?_
      refine lv_lstore_n (lv' := [(2, .long r_23), (0, .ref hmo), (1, .int x1), (4, .long x4), (6, .int x6), (7, .int x7)]) hx hb dX6_know_108 rfl hl (by decide) rfl (fun ls hl => ?_)
      refine lv_iinc (v := (x7 + (1 : Int32))) (lv' := [(7, .int (x7 + (1 : Int32))), (2, .long r_23), (0, .ref hmo), (1, .int x1), (4, .long x4), (6, .int x6)]) hx hb dX6_know_109 hl (k := 5) rfl rfl (by decide) rfl (fun ls hl => ?_)
      refine lv_goto (tgt := 78) hx hb dX6_know_112 (by decide) ?_
      exact hself _ _ _ _ _ _ _ _ _ _ hP hD hS (lv_sub hl [2, 3, 1, 4, 5, 0] rfl) hf
theorem wX6_know_L78 {p : Program} {l : Launch} {e : Env} {s : State} {m : MethodId} {args : Array Value} {below : List Frame} {meth : Method} {c : Code} {D : va_G} {cy : Nat → ClassId} {A : Nat → Prop} {hmo hmW hmP hmS hmE hmI hmO hmT hmK hmF hmH hmM hmD hmR hmB : Nat} {mC : Int32} {mN : Int32} {r0 : (Nat → Int32) × (Nat → Int64) × (Nat → Int32) × (Nat → Int32) × (Nat → Int64)} (E0 : En p m c cX6_know 8 s args wsX6_know RX6 meth none D cy) (N : Nat) (mW : Nat → Int32) (mP : Nat → Int64) (x1 : Int32) (x4 : Int64) (x6 : Int32) (hA : ∀ q, s.heap.size ≤ q → A q) (k : (Nat → Int32) → (Nat → Int64) → (Nat → Int32) → (Nat → Int32) → (Nat → Int64) → Int64 → Int32 → Option ((Nat → Int32) × (Nat → Int64) × (Nat → Int32) × (Nat → Int32) × (Nat → Int64))) (hk : ∀ (mK : Nat → Int32) (mF : Nat → Int64) (mH : Nat → Int32) (mM : Nat → Int32) (mD : Nat → Int64) (x2 : Int64) (x7 : Int32) (H : Heap) (locs : List Loc) (ls : Array Slot), va_P D vwCl [(hmo, .inr (5, [.int mC, .ref hmW, .ref hmP, .ref hmS, .ref hmE, .ref hmI, .ref hmO, .ref hmT, .int mN, .ref hmK, .ref hmF, .ref hmH, .ref hmM, .ref hmD, .ref hmR, .ref hmB])), (hmW, .inl (cy 0, 8, .inl mW)), (hmP, .inl (cy 1, 8, .inr (.inl mP))), (hmK, .inl (cy 2, 8, .inl mK)), (hmF, .inl (cy 1, 264, .inr (.inl mF))), (hmH, .inl (cy 0, 264, .inl mH)), (hmM, .inl (cy 0, 8, .inl mM)), (hmD, .inl (cy 1, 8, .inr (.inl mD)))] H → va_D A [(hmo, .inr (5, [.int mC, .ref hmW, .ref hmP, .ref hmS, .ref hmE, .ref hmI, .ref hmO, .ref hmT, .int mN, .ref hmK, .ref hmF, .ref hmH, .ref hmM, .ref hmD, .ref hmR, .ref hmB])), (hmW, .inl (cy 0, 8, .inl mW)), (hmP, .inl (cy 1, 8, .inr (.inl mP))), (hmK, .inl (cy 2, 8, .inl mK)), (hmF, .inl (cy 1, 264, .inr (.inl mF))), (hmH, .inl (cy 0, 264, .inl mH)), (hmM, .inl (cy 0, 8, .inl mM)), (hmD, .inl (cy 1, 8, .inr (.inl mD)))] → va_S A s.heap H locs → lv_has ls 8 [(0, .ref hmo), (1, .int x1), (2, .long x2), (4, .long x4), (6, .int x6), (7, .int x7)] → k mK mF mH mM mD x2 x7 = some r0 → GX6_know p l e s m args below meth c D cy A hmo hmW hmP hmS hmE hmI hmO hmT hmK hmF hmH hmM hmD hmR hmB mC mN mW mP r0 H locs (F0 m 115 ls [])) : ∀ (n : Nat), ∀ (mK : Nat → Int32) (mF : Nat → Int64) (mH : Nat → Int32) (mM : Nat → Int32) (mD : Nat → Int64) (x2 : Int64) (x7 : Int32) (H : Heap) (locs : List Loc) (ls : Array Slot), va_P D vwCl [(hmo, .inr (5, [.int mC, .ref hmW, .ref hmP, .ref hmS, .ref hmE, .ref hmI, .ref hmO, .ref hmT, .int mN, .ref hmK, .ref hmF, .ref hmH, .ref hmM, .ref hmD, .ref hmR, .ref hmB])), (hmW, .inl (cy 0, 8, .inl mW)), (hmP, .inl (cy 1, 8, .inr (.inl mP))), (hmK, .inl (cy 2, 8, .inl mK)), (hmF, .inl (cy 1, 264, .inr (.inl mF))), (hmH, .inl (cy 0, 264, .inl mH)), (hmM, .inl (cy 0, 8, .inl mM)), (hmD, .inl (cy 1, 8, .inr (.inl mD)))] H → va_D A [(hmo, .inr (5, [.int mC, .ref hmW, .ref hmP, .ref hmS, .ref hmE, .ref hmI, .ref hmO, .ref hmT, .int mN, .ref hmK, .ref hmF, .ref hmH, .ref hmM, .ref hmD, .ref hmR, .ref hmB])), (hmW, .inl (cy 0, 8, .inl mW)), (hmP, .inl (cy 1, 8, .inr (.inl mP))), (hmK, .inl (cy 2, 8, .inl mK)), (hmF, .inl (cy 1, 264, .inr (.inl mF))), (hmH, .inl (cy 0, 264, .inl mH)), (hmM, .inl (cy 0, 8, .inl mM)), (hmD, .inl (cy 1, 8, .inr (.inl mD)))] → va_S A s.heap H locs → lv_has ls 8 [(0, .ref hmo), (1, .int x1), (2, .long x2), (4, .long x4), (6, .int x6), (7, .int x7)] → fX6_know_L78 N mW mP x1 x4 x6 k n mK mF mH mM mD x2 x7 = some r0 → GX6_know p l e s m args below meth c D cy A hmo hmW hmP hmS hmE hmI hmO hmT hmK hmF hmH hmM hmD hmR hmB mC mN mW mP r0 H locs (F0 m 78 ls []) := by
  intro n
  induction n with
  | zero => intro mK mF mH mM mD x2 x7 H locs ls hP hD hS hl hf; cases hf
  | succ n ih => exact wX6_know_B78 E0 N mW mP x1 x4 x6 hA _ ih k hk
set_option maxHeartbeats 4000000 in
set_option maxRecDepth 100000 in
theorem wX6_know_J166 {p : Program} {l : Launch} {e : Env} {s : State} {m : MethodId} {args : Array Value} {below : List Frame} {meth : Method} {c : Code} {D : va_G} {cy : Nat → ClassId} {A : Nat → Prop} {hmo hmW hmP hmS hmE hmI hmO hmT hmK hmF hmH hmM hmD hmR hmB : Nat} {mC : Int32} {mN : Int32} {r0 : (Nat → Int32) × (Nat → Int64) × (Nat → Int32) × (Nat → Int32) × (Nat → Int64)} (E0 : En p m c cX6_know 8 s args wsX6_know RX6 meth none D cy) (N : Nat) (mW : Nat → Int32) (mP : Nat → Int64) (x1 : Int32) (hA : ∀ q, s.heap.size ≤ q → A q) (self : (Nat → Int32) → (Nat → Int64) → (Nat → Int32) → (Nat → Int32) → (Nat → Int64) → Int64 → Int64 → Int32 → Option ((Nat → Int32) × (Nat → Int64) × (Nat → Int32) × (Nat → Int32) × (Nat → Int64))) (hself : ∀ (mK : Nat → Int32) (mF : Nat → Int64) (mH : Nat → Int32) (mM : Nat → Int32) (mD : Nat → Int64) (x2 : Int64) (x4 : Int64) (x6 : Int32) (H : Heap) (locs : List Loc) (ls : Array Slot), va_P D vwCl [(hmo, .inr (5, [.int mC, .ref hmW, .ref hmP, .ref hmS, .ref hmE, .ref hmI, .ref hmO, .ref hmT, .int mN, .ref hmK, .ref hmF, .ref hmH, .ref hmM, .ref hmD, .ref hmR, .ref hmB])), (hmW, .inl (cy 0, 8, .inl mW)), (hmP, .inl (cy 1, 8, .inr (.inl mP))), (hmK, .inl (cy 2, 8, .inl mK)), (hmF, .inl (cy 1, 264, .inr (.inl mF))), (hmH, .inl (cy 0, 264, .inl mH)), (hmM, .inl (cy 0, 8, .inl mM)), (hmD, .inl (cy 1, 8, .inr (.inl mD)))] H → va_D A [(hmo, .inr (5, [.int mC, .ref hmW, .ref hmP, .ref hmS, .ref hmE, .ref hmI, .ref hmO, .ref hmT, .int mN, .ref hmK, .ref hmF, .ref hmH, .ref hmM, .ref hmD, .ref hmR, .ref hmB])), (hmW, .inl (cy 0, 8, .inl mW)), (hmP, .inl (cy 1, 8, .inr (.inl mP))), (hmK, .inl (cy 2, 8, .inl mK)), (hmF, .inl (cy 1, 264, .inr (.inl mF))), (hmH, .inl (cy 0, 264, .inl mH)), (hmM, .inl (cy 0, 8, .inl mM)), (hmD, .inl (cy 1, 8, .inr (.inl mD)))] → va_S A s.heap H locs → lv_has ls 8 [(0, .ref hmo), (1, .int x1), (2, .long x2), (4, .long x4), (6, .int x6)] → self mK mF mH mM mD x2 x4 x6 = some r0 → GX6_know p l e s m args below meth c D cy A hmo hmW hmP hmS hmE hmI hmO hmT hmK hmF hmH hmM hmD hmR hmB mC mN mW mP r0 H locs (F0 m 48 ls [])) : ∀ (mK : Nat → Int32) (mF : Nat → Int64) (mH : Nat → Int32) (mM : Nat → Int32) (mD : Nat → Int64) (x2 : Int64) (x4 : Int64) (x6 : Int32) (H : Heap) (locs : List Loc) (ls : Array Slot), va_P D vwCl [(hmo, .inr (5, [.int mC, .ref hmW, .ref hmP, .ref hmS, .ref hmE, .ref hmI, .ref hmO, .ref hmT, .int mN, .ref hmK, .ref hmF, .ref hmH, .ref hmM, .ref hmD, .ref hmR, .ref hmB])), (hmW, .inl (cy 0, 8, .inl mW)), (hmP, .inl (cy 1, 8, .inr (.inl mP))), (hmK, .inl (cy 2, 8, .inl mK)), (hmF, .inl (cy 1, 264, .inr (.inl mF))), (hmH, .inl (cy 0, 264, .inl mH)), (hmM, .inl (cy 0, 8, .inl mM)), (hmD, .inl (cy 1, 8, .inr (.inl mD)))] H → va_D A [(hmo, .inr (5, [.int mC, .ref hmW, .ref hmP, .ref hmS, .ref hmE, .ref hmI, .ref hmO, .ref hmT, .int mN, .ref hmK, .ref hmF, .ref hmH, .ref hmM, .ref hmD, .ref hmR, .ref hmB])), (hmW, .inl (cy 0, 8, .inl mW)), (hmP, .inl (cy 1, 8, .inr (.inl mP))), (hmK, .inl (cy 2, 8, .inl mK)), (hmF, .inl (cy 1, 264, .inr (.inl mF))), (hmH, .inl (cy 0, 264, .inl mH)), (hmM, .inl (cy 0, 8, .inl mM)), (hmD, .inl (cy 1, 8, .inr (.inl mD)))] → va_S A s.heap H locs → lv_has ls 8 [(0, .ref hmo), (1, .int x1), (2, .long x2), (4, .long x4), (6, .int x6)] → fX6_know_J166 N mW mP x1 self mK mF mH mM mD x2 x4 x6 = some r0 → GX6_know p l e s m args below meth c D cy A hmo hmW hmP hmS hmE hmI hmO hmT hmK hmF hmH hmM hmD hmR hmB mC mN mW mP r0 H locs (F0 m 166 ls []) := by
  obtain ⟨⟨hx, hb, hml, hown, hts⟩, hr, hlocks, hB⟩ := id E0
  have hK := hB.1
  have hN := hB.2
  intro mK mF mH mM mD x2 x4 x6 H locs ls hP hD hS hl hf
  unfold fX6_know_J166 at hf
  refine lv_lload hx hb dX6_know_166 (lv_at hl 3 rfl) ?_
  refine lv_ldc2 (v := (2 : Int64)) hx hb hown (hts _ mX6_know_5) dX6_know_168 ?_
  refine lv_ladd hx hb dX6_know_171 ?_
  refine lv_lstore (lv' := [(4, .long (x4 + (2 : Int64))), (0, .ref hmo), (1, .int x1), (2, .long x2), (6, .int x6)]) hx hb dX6_know_172 hl (by decide) rfl (fun ls hl => ?_)
  refine lv_lload hx hb dX6_know_174 (lv_at hl 0 rfl) ?_
  refine lv_iload hx hb dX6_know_176 (lv_at hl 4 rfl) ?_
  refine lv_iconst (v := (1 : Int32)) hx hb dX6_know_178 (by decide) ?_
  refine lv_iadd hx hb dX6_know_179 ?_
  refine zz_lshr hx hb dX6_know_180 ?_
  refine lv_lconst (v := (0 : Int64)) hx hb dX6_know_181 (by decide) ?_
  refine zz_lc_ne (tgt := 191) hx hb dX6_know_182 dX6_know_183 (by decide) (fun c_35 => ?_) (fun c_35 => ?_)
  · have hf := ite_f hf c_35
    refine lv_iload hx hb dX6_know_191 (lv_at hl 4 rfl) ?_
    refine lv_iconst (v := (1 : Int32)) hx hb dX6_know_193 (by decide) ?_
    refine lv_iadd hx hb dX6_know_194 ?_
    refine lv_istore (lv' := [(6, .int (x6 + (1 : Int32))), (4, .long (x4 + (2 : Int64))), (0, .ref hmo), (1, .int x1), (2, .long x2)]) hx hb dX6_know_195 hl (by decide) rfl (fun ls hl => ?_)
    refine lv_goto (tgt := 48) hx hb dX6_know_197 (by decide) ?_
    exact hself _ _ _ _ _ _ _ _ _ _ _ hP hD hS (lv_sub hl [2, 3, 4, 1, 0] rfl) hf
  · have hf := ite_t hf c_35
    refine lv_iload hx hb dX6_know_186 (lv_at hl 4 rfl) ?_
    refine lv_goto (tgt := 195) hx hb dX6_know_188 (by decide) ?_
    refine lv_istore (lv' := [(6, .int x6), (4, .long (x4 + (2 : Int64))), (0, .ref hmo), (1, .int x1), (2, .long x2)]) hx hb dX6_know_195 hl (by decide) rfl (fun ls hl => ?_)
    refine lv_goto (tgt := 48) hx hb dX6_know_197 (by decide) ?_
    exact hself _ _ _ _ _ _ _ _ _ _ _ hP hD hS (lv_sub hl [2, 3, 4, 1, 0] rfl) hf
set_option maxHeartbeats 4000000 in
set_option maxRecDepth 100000 in
theorem wX6_know_J75 {p : Program} {l : Launch} {e : Env} {s : State} {m : MethodId} {args : Array Value} {below : List Frame} {meth : Method} {c : Code} {D : va_G} {cy : Nat → ClassId} {A : Nat → Prop} {hmo hmW hmP hmS hmE hmI hmO hmT hmK hmF hmH hmM hmD hmR hmB : Nat} {mC : Int32} {mN : Int32} {r0 : (Nat → Int32) × (Nat → Int64) × (Nat → Int32) × (Nat → Int32) × (Nat → Int64)} (E0 : En p m c cX6_know 8 s args wsX6_know RX6 meth none D cy) (N : Nat) (mW : Nat → Int32) (mP : Nat → Int64) (x1 : Int32) (hA : ∀ q, s.heap.size ≤ q → A q) (self : (Nat → Int32) → (Nat → Int64) → (Nat → Int32) → (Nat → Int32) → (Nat → Int64) → Int64 → Int64 → Int32 → Option ((Nat → Int32) × (Nat → Int64) × (Nat → Int32) × (Nat → Int32) × (Nat → Int64))) (hself : ∀ (mK : Nat → Int32) (mF : Nat → Int64) (mH : Nat → Int32) (mM : Nat → Int32) (mD : Nat → Int64) (x2 : Int64) (x4 : Int64) (x6 : Int32) (H : Heap) (locs : List Loc) (ls : Array Slot), va_P D vwCl [(hmo, .inr (5, [.int mC, .ref hmW, .ref hmP, .ref hmS, .ref hmE, .ref hmI, .ref hmO, .ref hmT, .int mN, .ref hmK, .ref hmF, .ref hmH, .ref hmM, .ref hmD, .ref hmR, .ref hmB])), (hmW, .inl (cy 0, 8, .inl mW)), (hmP, .inl (cy 1, 8, .inr (.inl mP))), (hmK, .inl (cy 2, 8, .inl mK)), (hmF, .inl (cy 1, 264, .inr (.inl mF))), (hmH, .inl (cy 0, 264, .inl mH)), (hmM, .inl (cy 0, 8, .inl mM)), (hmD, .inl (cy 1, 8, .inr (.inl mD)))] H → va_D A [(hmo, .inr (5, [.int mC, .ref hmW, .ref hmP, .ref hmS, .ref hmE, .ref hmI, .ref hmO, .ref hmT, .int mN, .ref hmK, .ref hmF, .ref hmH, .ref hmM, .ref hmD, .ref hmR, .ref hmB])), (hmW, .inl (cy 0, 8, .inl mW)), (hmP, .inl (cy 1, 8, .inr (.inl mP))), (hmK, .inl (cy 2, 8, .inl mK)), (hmF, .inl (cy 1, 264, .inr (.inl mF))), (hmH, .inl (cy 0, 264, .inl mH)), (hmM, .inl (cy 0, 8, .inl mM)), (hmD, .inl (cy 1, 8, .inr (.inl mD)))] → va_S A s.heap H locs → lv_has ls 8 [(0, .ref hmo), (1, .int x1), (2, .long x2), (4, .long x4), (6, .int x6)] → self mK mF mH mM mD x2 x4 x6 = some r0 → GX6_know p l e s m args below meth c D cy A hmo hmW hmP hmS hmE hmI hmO hmT hmK hmF hmH hmM hmD hmR hmB mC mN mW mP r0 H locs (F0 m 48 ls [])) : ∀ (mK : Nat → Int32) (mF : Nat → Int64) (mH : Nat → Int32) (mM : Nat → Int32) (mD : Nat → Int64) (x2 : Int64) (x4 : Int64) (x6 : Int32) (H : Heap) (locs : List Loc) (ls : Array Slot), va_P D vwCl [(hmo, .inr (5, [.int mC, .ref hmW, .ref hmP, .ref hmS, .ref hmE, .ref hmI, .ref hmO, .ref hmT, .int mN, .ref hmK, .ref hmF, .ref hmH, .ref hmM, .ref hmD, .ref hmR, .ref hmB])), (hmW, .inl (cy 0, 8, .inl mW)), (hmP, .inl (cy 1, 8, .inr (.inl mP))), (hmK, .inl (cy 2, 8, .inl mK)), (hmF, .inl (cy 1, 264, .inr (.inl mF))), (hmH, .inl (cy 0, 264, .inl mH)), (hmM, .inl (cy 0, 8, .inl mM)), (hmD, .inl (cy 1, 8, .inr (.inl mD)))] H → va_D A [(hmo, .inr (5, [.int mC, .ref hmW, .ref hmP, .ref hmS, .ref hmE, .ref hmI, .ref hmO, .ref hmT, .int mN, .ref hmK, .ref hmF, .ref hmH, .ref hmM, .ref hmD, .ref hmR, .ref hmB])), (hmW, .inl (cy 0, 8, .inl mW)), (hmP, .inl (cy 1, 8, .inr (.inl mP))), (hmK, .inl (cy 2, 8, .inl mK)), (hmF, .inl (cy 1, 264, .inr (.inl mF))), (hmH, .inl (cy 0, 264, .inl mH)), (hmM, .inl (cy 0, 8, .inl mM)), (hmD, .inl (cy 1, 8, .inr (.inl mD)))] → va_S A s.heap H locs → lv_has ls 8 [(0, .ref hmo), (1, .int x1), (2, .long x2), (4, .long x4), (6, .int x6)] → fX6_know_J75 N mW mP x1 self mK mF mH mM mD x2 x4 x6 = some r0 → GX6_know p l e s m args below meth c D cy A hmo hmW hmP hmS hmE hmI hmO hmT hmK hmF hmH hmM hmD hmR hmB mC mN mW mP r0 H locs (F0 m 75 ls []) := by
  obtain ⟨⟨hx, hb, hml, hown, hts⟩, hr, hlocks, hB⟩ := id E0
  have hK := hB.1
  have hN := hB.2
  intro mK mF mH mM mD x2 x4 x6 H locs ls hP hD hS hl hf
  unfold fX6_know_J75 at hf
  refine lv_iconst (v := (0 : Int32)) hx hb dX6_know_75 (by decide) ?_
  refine lv_istore (lv' := [(7, .int (0 : Int32)), (0, .ref hmo), (1, .int x1), (2, .long x2), (4, .long x4), (6, .int x6)]) hx hb dX6_know_76 hl (by decide) rfl (fun ls hl => ?_)
  refine wX6_know_L78 E0 N mW mP x1 x4 x6 hA _ (fun mK_25 mF_26 mH_27 mM_28 mD_29 x2_30 x7_31 H32 locs33 ls hP hD hS hl hf => ?_) N _ _ _ _ _ _ _ _ _ _ hP hD hS (lv_sub hl [1, 2, 3, 4, 5, 0] rfl) hf
  refine lv_iload hx hb dX6_know_115 (lv_at hl 5 rfl) ?_
  refine lv_if_le (tgt := 166) hx hb dX6_know_117 (by decide) (fun c_34 => ?_) (fun c_34 => ?_)
  · have hf := ite_t hf c_34
    exact wX6_know_J166 E0 N mW mP x1 hA _ hself _ _ _ _ _ _ _ _ _ _ _ hP hD hS (lv_sub hl [0, 1, 2, 3, 4] rfl) hf
  · have hf := ite_f hf c_34
    refine lv_aload_n hx hb dX6_know_120 rfl (lv_at hl 0 rfl) ?_
    refine va_get (D := D) (ci := 5) (v := .ref hmF) (C := RX6) (T := TX6) (N := 16) hx hb hts inX6_know_X6 hown hK hP 0 rfl rfl 10 (by decide) (hts _ mX6_know_6) (fun _ h9 => h9) rfl dX6_know_121 ?_
    refine lv_bipush (v := (33 : Int32)) hx hb dX6_know_124 (by decide) ?_
    refine lv_iload_n hx hb dX6_know_126 rfl (lv_at hl 1 rfl) ?_
    refine lv_imul hx hb dX6_know_127 ?_
    refine lv_aload_n hx hb dX6_know_128 rfl (lv_at hl 0 rfl) ?_
    refine va_get (D := D) (ci := 5) (v := .ref hmM) (C := RX6) (T := TX6) (N := 16) hx hb hts inX6_know_X6 hown hK hP 0 rfl rfl 12 (by decide) (hts _ mX6_know_1) (fun _ h9 => h9) rfl dX6_know_129 ?_
    refine lv_iload_n hx hb dX6_know_132 rfl (lv_at hl 1 rfl) ?_
    obtain ⟨b_36, hf⟩ := ite_n hf
    refine va_iald hx hb hK hP 6 0 rfl rfl b_36 dX6_know_133 ?_
    refine lv_iadd hx hb dX6_know_134 ?_
    refine lv_lload hx hb dX6_know_135 (lv_at hl 3 rfl) ?_
    obtain ⟨b_37, hf⟩ := ite_n hf
    refine va_last hx hb hK hP hD hS 4 1 rfl rfl b_37 dX6_know_137 (fun H38 locs39 hP hD hS => ?_)
    have hP : va_P D vwCl [(hmo, .inr (5, [.int mC, .ref hmW, .ref hmP, .ref hmS, .ref hmE, .ref hmI, .ref hmO, .ref hmT, .int mN, .ref hmK, .ref hmF, .ref hmH, .ref hmM, .ref hmD, .ref hmR, .ref hmB])), (hmW, .inl (cy 0, 8, .inl mW)), (hmP, .inl (cy 1, 8, .inr (.inl mP))), (hmK, .inl (cy 2, 8, .inl mK_25)), (hmF, .inl (cy 1, 264, .inr (.inl (vp_updL mF_26 (((33 : Int32) * x1) + (mM_28 x1.toNatClampNeg)).toNatClampNeg x4)))), (hmH, .inl (cy 0, 264, .inl mH_27)), (hmM, .inl (cy 0, 8, .inl mM_28)), (hmD, .inl (cy 1, 8, .inr (.inl mD_29)))] H38 := hP
    have hD : va_D A [(hmo, .inr (5, [.int mC, .ref hmW, .ref hmP, .ref hmS, .ref hmE, .ref hmI, .ref hmO, .ref hmT, .int mN, .ref hmK, .ref hmF, .ref hmH, .ref hmM, .ref hmD, .ref hmR, .ref hmB])), (hmW, .inl (cy 0, 8, .inl mW)), (hmP, .inl (cy 1, 8, .inr (.inl mP))), (hmK, .inl (cy 2, 8, .inl mK_25)), (hmF, .inl (cy 1, 264, .inr (.inl (vp_updL mF_26 (((33 : Int32) * x1) + (mM_28 x1.toNatClampNeg)).toNatClampNeg x4)))), (hmH, .inl (cy 0, 264, .inl mH_27)), (hmM, .inl (cy 0, 8, .inl mM_28)), (hmD, .inl (cy 1, 8, .inr (.inl mD_29)))] := hD
    refine lv_aload_n hx hb dX6_know_138 rfl (lv_at hl 0 rfl) ?_
    refine va_get (D := D) (ci := 5) (v := .ref hmH) (C := RX6) (T := TX6) (N := 16) hx hb hts inX6_know_X6 hown hK hP 0 rfl rfl 11 (by decide) (hts _ mX6_know_7) (fun _ h9 => h9) rfl dX6_know_139 ?_
    refine lv_bipush (v := (33 : Int32)) hx hb dX6_know_142 (by decide) ?_
    refine lv_iload_n hx hb dX6_know_144 rfl (lv_at hl 1 rfl) ?_
    refine lv_imul hx hb dX6_know_145 ?_
    refine lv_aload_n hx hb dX6_know_146 rfl (lv_at hl 0 rfl) ?_
    refine va_get (D := D) (ci := 5) (v := .ref hmM) (C := RX6) (T := TX6) (N := 16) hx hb hts inX6_know_X6 hown hK hP 0 rfl rfl 12 (by decide) (hts _ mX6_know_1) (fun _ h9 => h9) rfl dX6_know_147 ?_
    refine lv_iload_n hx hb dX6_know_150 rfl (lv_at hl 1 rfl) ?_
    obtain ⟨b_40, hf⟩ := ite_n hf
    refine va_iald hx hb hK hP 6 0 rfl rfl b_40 dX6_know_151 ?_
    refine lv_iadd hx hb dX6_know_152 ?_
    refine lv_iload hx hb dX6_know_153 (lv_at hl 5 rfl) ?_
    obtain ⟨b_41, hf⟩ := ite_n hf
    refine va_iast hx hb hK hP hD hS 5 0 rfl rfl b_41 dX6_know_155 (fun H42 locs43 hP hD hS => ?_)
    have hP : va_P D vwCl [(hmo, .inr (5, [.int mC, .ref hmW, .ref hmP, .ref hmS, .ref hmE, .ref hmI, .ref hmO, .ref hmT, .int mN, .ref hmK, .ref hmF, .ref hmH, .ref hmM, .ref hmD, .ref hmR, .ref hmB])), (hmW, .inl (cy 0, 8, .inl mW)), (hmP, .inl (cy 1, 8, .inr (.inl mP))), (hmK, .inl (cy 2, 8, .inl mK_25)), (hmF, .inl (cy 1, 264, .inr (.inl (vp_updL mF_26 (((33 : Int32) * x1) + (mM_28 x1.toNatClampNeg)).toNatClampNeg x4)))), (hmH, .inl (cy 0, 264, .inl (upd mH_27 (((33 : Int32) * x1) + (mM_28 x1.toNatClampNeg)).toNatClampNeg x7_31))), (hmM, .inl (cy 0, 8, .inl mM_28)), (hmD, .inl (cy 1, 8, .inr (.inl mD_29)))] H42 := hP
    have hD : va_D A [(hmo, .inr (5, [.int mC, .ref hmW, .ref hmP, .ref hmS, .ref hmE, .ref hmI, .ref hmO, .ref hmT, .int mN, .ref hmK, .ref hmF, .ref hmH, .ref hmM, .ref hmD, .ref hmR, .ref hmB])), (hmW, .inl (cy 0, 8, .inl mW)), (hmP, .inl (cy 1, 8, .inr (.inl mP))), (hmK, .inl (cy 2, 8, .inl mK_25)), (hmF, .inl (cy 1, 264, .inr (.inl (vp_updL mF_26 (((33 : Int32) * x1) + (mM_28 x1.toNatClampNeg)).toNatClampNeg x4)))), (hmH, .inl (cy 0, 264, .inl (upd mH_27 (((33 : Int32) * x1) + (mM_28 x1.toNatClampNeg)).toNatClampNeg x7_31))), (hmM, .inl (cy 0, 8, .inl mM_28)), (hmD, .inl (cy 1, 8, .inr (.inl mD_29)))] := hD
    refine lv_aload_n hx hb dX6_know_156 rfl (lv_at hl 0 rfl) ?_
    refine va_get (D := D) (ci := 5) (v := .ref hmM) (C := RX6) (T := TX6) (N := 16) hx hb hts inX6_know_X6 hown hK hP 0 rfl rfl 12 (by decide) (hts _ mX6_know_1) (fun _ h9 => h9) rfl dX6_know_157 ?_
    refine lv_iload_n hx hb dX6_know_160 rfl (lv_at hl 1 rfl) ?_
    refine lv_dup2_11 hx hb dX6_know_161 rfl rfl ?_
    obtain ⟨b_44, hf⟩ := ite_n hf
    refine va_iald hx hb hK hP 6 0 rfl rfl b_44 dX6_know_162 ?_
    refine lv_iconst (v := (1 : Int32)) hx hb dX6_know_163 (by decide) ?_
    refine lv_iadd hx hb dX6_know_164 ?_
    obtain ⟨b_45, hf⟩ := ite_n hf
    refine va_iast hx hb hK hP hD hS 6 0 rfl rfl b_45 dX6_know_165 (fun H46 locs47 hP hD hS => ?_)
    have hP : va_P D vwCl [(hmo, .inr (5, [.int mC, .ref hmW, .ref hmP, .ref hmS, .ref hmE, .ref hmI, .ref hmO, .ref hmT, .int mN, .ref hmK, .ref hmF, .ref hmH, .ref hmM, .ref hmD, .ref hmR, .ref hmB])), (hmW, .inl (cy 0, 8, .inl mW)), (hmP, .inl (cy 1, 8, .inr (.inl mP))), (hmK, .inl (cy 2, 8, .inl mK_25)), (hmF, .inl (cy 1, 264, .inr (.inl (vp_updL mF_26 (((33 : Int32) * x1) + (mM_28 x1.toNatClampNeg)).toNatClampNeg x4)))), (hmH, .inl (cy 0, 264, .inl (upd mH_27 (((33 : Int32) * x1) + (mM_28 x1.toNatClampNeg)).toNatClampNeg x7_31))), (hmM, .inl (cy 0, 8, .inl (upd mM_28 x1.toNatClampNeg ((mM_28 x1.toNatClampNeg) + (1 : Int32))))), (hmD, .inl (cy 1, 8, .inr (.inl mD_29)))] H46 := hP
    have hD : va_D A [(hmo, .inr (5, [.int mC, .ref hmW, .ref hmP, .ref hmS, .ref hmE, .ref hmI, .ref hmO, .ref hmT, .int mN, .ref hmK, .ref hmF, .ref hmH, .ref hmM, .ref hmD, .ref hmR, .ref hmB])), (hmW, .inl (cy 0, 8, .inl mW)), (hmP, .inl (cy 1, 8, .inr (.inl mP))), (hmK, .inl (cy 2, 8, .inl mK_25)), (hmF, .inl (cy 1, 264, .inr (.inl (vp_updL mF_26 (((33 : Int32) * x1) + (mM_28 x1.toNatClampNeg)).toNatClampNeg x4)))), (hmH, .inl (cy 0, 264, .inl (upd mH_27 (((33 : Int32) * x1) + (mM_28 x1.toNatClampNeg)).toNatClampNeg x7_31))), (hmM, .inl (cy 0, 8, .inl (upd mM_28 x1.toNatClampNeg ((mM_28 x1.toNatClampNeg) + (1 : Int32))))), (hmD, .inl (cy 1, 8, .inr (.inl mD_29)))] := hD
    exact wX6_know_J166 E0 N mW mP x1 hA _ hself _ _ _ _ _ _ _ _ _ _ _ hP hD hS (lv_sub hl [0, 1, 2, 3, 4] rfl) hf
set_option maxHeartbeats 4000000 in
set_option maxRecDepth 100000 in
theorem wX6_know_B48 {p : Program} {l : Launch} {e : Env} {s : State} {m : MethodId} {args : Array Value} {below : List Frame} {meth : Method} {c : Code} {D : va_G} {cy : Nat → ClassId} {A : Nat → Prop} {hmo hmW hmP hmS hmE hmI hmO hmT hmK hmF hmH hmM hmD hmR hmB : Nat} {mC : Int32} {mN : Int32} {r0 : (Nat → Int32) × (Nat → Int64) × (Nat → Int32) × (Nat → Int32) × (Nat → Int64)} (E0 : En p m c cX6_know 8 s args wsX6_know RX6 meth none D cy) (N : Nat) (mW : Nat → Int32) (mP : Nat → Int64) (x1 : Int32) (hA : ∀ q, s.heap.size ≤ q → A q) (self : (Nat → Int32) → (Nat → Int64) → (Nat → Int32) → (Nat → Int32) → (Nat → Int64) → Int64 → Int64 → Int32 → Option ((Nat → Int32) × (Nat → Int64) × (Nat → Int32) × (Nat → Int32) × (Nat → Int64))) (hself : ∀ (mK : Nat → Int32) (mF : Nat → Int64) (mH : Nat → Int32) (mM : Nat → Int32) (mD : Nat → Int64) (x2 : Int64) (x4 : Int64) (x6 : Int32) (H : Heap) (locs : List Loc) (ls : Array Slot), va_P D vwCl [(hmo, .inr (5, [.int mC, .ref hmW, .ref hmP, .ref hmS, .ref hmE, .ref hmI, .ref hmO, .ref hmT, .int mN, .ref hmK, .ref hmF, .ref hmH, .ref hmM, .ref hmD, .ref hmR, .ref hmB])), (hmW, .inl (cy 0, 8, .inl mW)), (hmP, .inl (cy 1, 8, .inr (.inl mP))), (hmK, .inl (cy 2, 8, .inl mK)), (hmF, .inl (cy 1, 264, .inr (.inl mF))), (hmH, .inl (cy 0, 264, .inl mH)), (hmM, .inl (cy 0, 8, .inl mM)), (hmD, .inl (cy 1, 8, .inr (.inl mD)))] H → va_D A [(hmo, .inr (5, [.int mC, .ref hmW, .ref hmP, .ref hmS, .ref hmE, .ref hmI, .ref hmO, .ref hmT, .int mN, .ref hmK, .ref hmF, .ref hmH, .ref hmM, .ref hmD, .ref hmR, .ref hmB])), (hmW, .inl (cy 0, 8, .inl mW)), (hmP, .inl (cy 1, 8, .inr (.inl mP))), (hmK, .inl (cy 2, 8, .inl mK)), (hmF, .inl (cy 1, 264, .inr (.inl mF))), (hmH, .inl (cy 0, 264, .inl mH)), (hmM, .inl (cy 0, 8, .inl mM)), (hmD, .inl (cy 1, 8, .inr (.inl mD)))] → va_S A s.heap H locs → lv_has ls 8 [(0, .ref hmo), (1, .int x1), (2, .long x2), (4, .long x4), (6, .int x6)] → self mK mF mH mM mD x2 x4 x6 = some r0 → GX6_know p l e s m args below meth c D cy A hmo hmW hmP hmS hmE hmI hmO hmT hmK hmF hmH hmM hmD hmR hmB mC mN mW mP r0 H locs (F0 m 48 ls [])) (k : (Nat → Int32) → (Nat → Int64) → (Nat → Int32) → (Nat → Int32) → (Nat → Int64) → Option ((Nat → Int32) × (Nat → Int64) × (Nat → Int32) × (Nat → Int32) × (Nat → Int64))) (hk : ∀ (mK : Nat → Int32) (mF : Nat → Int64) (mH : Nat → Int32) (mM : Nat → Int32) (mD : Nat → Int64) (H : Heap) (locs : List Loc) (ls : Array Slot), va_P D vwCl [(hmo, .inr (5, [.int mC, .ref hmW, .ref hmP, .ref hmS, .ref hmE, .ref hmI, .ref hmO, .ref hmT, .int mN, .ref hmK, .ref hmF, .ref hmH, .ref hmM, .ref hmD, .ref hmR, .ref hmB])), (hmW, .inl (cy 0, 8, .inl mW)), (hmP, .inl (cy 1, 8, .inr (.inl mP))), (hmK, .inl (cy 2, 8, .inl mK)), (hmF, .inl (cy 1, 264, .inr (.inl mF))), (hmH, .inl (cy 0, 264, .inl mH)), (hmM, .inl (cy 0, 8, .inl mM)), (hmD, .inl (cy 1, 8, .inr (.inl mD)))] H → va_D A [(hmo, .inr (5, [.int mC, .ref hmW, .ref hmP, .ref hmS, .ref hmE, .ref hmI, .ref hmO, .ref hmT, .int mN, .ref hmK, .ref hmF, .ref hmH, .ref hmM, .ref hmD, .ref hmR, .ref hmB])), (hmW, .inl (cy 0, 8, .inl mW)), (hmP, .inl (cy 1, 8, .inr (.inl mP))), (hmK, .inl (cy 2, 8, .inl mK)), (hmF, .inl (cy 1, 264, .inr (.inl mF))), (hmH, .inl (cy 0, 264, .inl mH)), (hmM, .inl (cy 0, 8, .inl mM)), (hmD, .inl (cy 1, 8, .inr (.inl mD)))] → va_S A s.heap H locs → lv_has ls 8 [(0, .ref hmo), (1, .int x1)] → k mK mF mH mM mD = some r0 → GX6_know p l e s m args below meth c D cy A hmo hmW hmP hmS hmE hmI hmO hmT hmK hmF hmH hmM hmD hmR hmB mC mN mW mP r0 H locs (F0 m 200 ls [])) : ∀ (mK : Nat → Int32) (mF : Nat → Int64) (mH : Nat → Int32) (mM : Nat → Int32) (mD : Nat → Int64) (x2 : Int64) (x4 : Int64) (x6 : Int32) (H : Heap) (locs : List Loc) (ls : Array Slot), va_P D vwCl [(hmo, .inr (5, [.int mC, .ref hmW, .ref hmP, .ref hmS, .ref hmE, .ref hmI, .ref hmO, .ref hmT, .int mN, .ref hmK, .ref hmF, .ref hmH, .ref hmM, .ref hmD, .ref hmR, .ref hmB])), (hmW, .inl (cy 0, 8, .inl mW)), (hmP, .inl (cy 1, 8, .inr (.inl mP))), (hmK, .inl (cy 2, 8, .inl mK)), (hmF, .inl (cy 1, 264, .inr (.inl mF))), (hmH, .inl (cy 0, 264, .inl mH)), (hmM, .inl (cy 0, 8, .inl mM)), (hmD, .inl (cy 1, 8, .inr (.inl mD)))] H → va_D A [(hmo, .inr (5, [.int mC, .ref hmW, .ref hmP, .ref hmS, .ref hmE, .ref hmI, .ref hmO, .ref hmT, .int mN, .ref hmK, .ref hmF, .ref hmH, .ref hmM, .ref hmD, .ref hmR, .ref hmB])), (hmW, .inl (cy 0, 8, .inl mW)), (hmP, .inl (cy 1, 8, .inr (.inl mP))), (hmK, .inl (cy 2, 8, .inl mK)), (hmF, .inl (cy 1, 264, .inr (.inl mF))), (hmH, .inl (cy 0, 264, .inl mH)), (hmM, .inl (cy 0, 8, .inl mM)), (hmD, .inl (cy 1, 8, .inr (.inl mD)))] → va_S A s.heap H locs → lv_has ls 8 [(0, .ref hmo), (1, .int x1), (2, .long x2), (4, .long x4), (6, .int x6)] → fX6_know_B48 N mW mP x1 self k mK mF mH mM mD x2 x4 x6 = some r0 → GX6_know p l e s m args below meth c D cy A hmo hmW hmP hmS hmE hmI hmO hmT hmK hmF hmH hmM hmD hmR hmB mC mN mW mP r0 H locs (F0 m 48 ls []) := by
  obtain ⟨⟨hx, hb, hml, hown, hts⟩, hr, hlocks, hB⟩ := id E0
  have hK := hB.1
  have hN := hB.2
  intro mK mF mH mM mD x2 x4 x6 H locs ls hP hD hS hl hf
  unfold fX6_know_B48 at hf
  refine lv_lload_n hx hb dX6_know_48 rfl (lv_at hl 2 rfl) ?_
  obtain ⟨r_11, h_12, hf⟩ := bind_some hf
  have hP_r_11 : va_P D vwCl [] H := hP.sub [] rfl
  refine cz_i (va_runS (As := [.long x2]) (rest := []) ⟨hx, hb, hml, hown, hts⟩ (ctX6_degree l D cy N   x2 r_11 h_12) (va_cwS 1 hts gX6_know_X6_degree rfl rfl rfl (by decide +kernel) ⟨Nat.le_of_ble_eq_true rfl, Nat.le_of_ble_eq_true rfl⟩) (preS_rd [.long x2] hP_r_11 hB) rfl rfl hl.1 rfl (lv_room (Nat.le_of_ble_eq_true rfl)) dX6_know_49 ⟨Nat.zero_le _, Nat.zero_le _⟩) ?_
  refine lv_if_le (tgt := 200) hx hb dX6_know_52 (by decide) (fun c_13 => ?_) (fun c_13 => ?_)
  · have hf := ite_t hf c_13
    exact hk _ _ _ _ _ _ _ _ hP hD hS (lv_sub hl [0, 1] rfl) hf
  · have hf := ite_f hf c_13
    refine lv_iconst (v := (2 : Int32)) hx hb dX6_know_55 (by decide) ?_
    refine lv_iload hx hb dX6_know_56 (lv_at hl 4 rfl) ?_
    refine lv_imul hx hb dX6_know_58 ?_
    refine lv_lload_n hx hb dX6_know_59 rfl (lv_at hl 2 rfl) ?_
    obtain ⟨r_14, h_15, hf⟩ := bind_some hf
    have hP_r_14 : va_P D vwCl [] H := hP.sub [] rfl
    refine cz_i (va_runS (As := [.long x2]) (rest := [.int ((2 : Int32) * x6)]) ⟨hx, hb, hml, hown, hts⟩ (ctX6_degree l D cy N   x2 r_14 h_15) (va_cwS 1 hts gX6_know_X6_degree rfl rfl rfl (by decide +kernel) ⟨Nat.le_of_ble_eq_true rfl, Nat.le_of_ble_eq_true rfl⟩) (preS_rd [.long x2] hP_r_14 hB) rfl rfl hl.1 rfl (lv_room (Nat.le_of_ble_eq_true rfl)) dX6_know_60 ⟨Nat.zero_le _, Nat.zero_le _⟩) ?_
    refine lv_icmp_le (tgt := 75) hx hb dX6_know_63 (by decide) (fun c_16 => ?_) (fun c_16 => ?_)
    · have hf := ite_t hf c_16
      exact wX6_know_J75 E0 N mW mP x1 hA _ hself _ _ _ _ _ _ _ _ _ _ _ hP hD hS (lv_sub hl [0, 1, 2, 3, 4] rfl) hf
    · have hf := ite_f hf c_16
      refine lv_lload_n hx hb dX6_know_66 rfl (lv_at hl 2 rfl) ?_
      refine lv_lstore (lv' := [(4, .long x2), (0, .ref hmo), (1, .int x1), (2, .long x2), (6, .int x6)]) hx hb dX6_know_67 hl (by decide) rfl (fun ls hl => ?_)
      refine lv_lload_n hx hb dX6_know_69 rfl (lv_at hl 3 rfl) ?_
      obtain ⟨r_48, h_49, hf⟩ := bind_some hf
      have hP_r_48 : va_P D vwCl [] H := hP.sub [] rfl
      refine cz_i (va_runS (As := [.long x2]) (rest := []) ⟨hx, hb, hml, hown, hts⟩ (ctX6_degree l D cy N   x2 r_48 h_49) (va_cwS 1 hts gX6_know_X6_degree rfl rfl rfl (by decide +kernel) ⟨Nat.le_of_ble_eq_true rfl, Nat.le_of_ble_eq_true rfl⟩) (preS_rd [.long x2] hP_r_48 hB) rfl rfl hl.1 rfl (lv_room (Nat.le_of_ble_eq_true rfl)) dX6_know_70 ⟨Nat.zero_le _, Nat.zero_le _⟩) ?_
      refine lv_istore (lv' := [(6, .int r_48), (4, .long x2), (0, .ref hmo), (1, .int x1), (2, .long x2)]) hx hb dX6_know_73 hl (by decide) rfl (fun ls hl => ?_)
      exact wX6_know_J75 E0 N mW mP x1 hA _ hself _ _ _ _ _ _ _ _ _ _ _ hP hD hS (lv_sub hl [2, 3, 4, 1, 0] rfl) hf
theorem wX6_know_L48 {p : Program} {l : Launch} {e : Env} {s : State} {m : MethodId} {args : Array Value} {below : List Frame} {meth : Method} {c : Code} {D : va_G} {cy : Nat → ClassId} {A : Nat → Prop} {hmo hmW hmP hmS hmE hmI hmO hmT hmK hmF hmH hmM hmD hmR hmB : Nat} {mC : Int32} {mN : Int32} {r0 : (Nat → Int32) × (Nat → Int64) × (Nat → Int32) × (Nat → Int32) × (Nat → Int64)} (E0 : En p m c cX6_know 8 s args wsX6_know RX6 meth none D cy) (N : Nat) (mW : Nat → Int32) (mP : Nat → Int64) (x1 : Int32) (hA : ∀ q, s.heap.size ≤ q → A q) (k : (Nat → Int32) → (Nat → Int64) → (Nat → Int32) → (Nat → Int32) → (Nat → Int64) → Option ((Nat → Int32) × (Nat → Int64) × (Nat → Int32) × (Nat → Int32) × (Nat → Int64))) (hk : ∀ (mK : Nat → Int32) (mF : Nat → Int64) (mH : Nat → Int32) (mM : Nat → Int32) (mD : Nat → Int64) (H : Heap) (locs : List Loc) (ls : Array Slot), va_P D vwCl [(hmo, .inr (5, [.int mC, .ref hmW, .ref hmP, .ref hmS, .ref hmE, .ref hmI, .ref hmO, .ref hmT, .int mN, .ref hmK, .ref hmF, .ref hmH, .ref hmM, .ref hmD, .ref hmR, .ref hmB])), (hmW, .inl (cy 0, 8, .inl mW)), (hmP, .inl (cy 1, 8, .inr (.inl mP))), (hmK, .inl (cy 2, 8, .inl mK)), (hmF, .inl (cy 1, 264, .inr (.inl mF))), (hmH, .inl (cy 0, 264, .inl mH)), (hmM, .inl (cy 0, 8, .inl mM)), (hmD, .inl (cy 1, 8, .inr (.inl mD)))] H → va_D A [(hmo, .inr (5, [.int mC, .ref hmW, .ref hmP, .ref hmS, .ref hmE, .ref hmI, .ref hmO, .ref hmT, .int mN, .ref hmK, .ref hmF, .ref hmH, .ref hmM, .ref hmD, .ref hmR, .ref hmB])), (hmW, .inl (cy 0, 8, .inl mW)), (hmP, .inl (cy 1, 8, .inr (.inl mP))), (hmK, .inl (cy 2, 8, .inl mK)), (hmF, .inl (cy 1, 264, .inr (.inl mF))), (hmH, .inl (cy 0, 264, .inl mH)), (hmM, .inl (cy 0, 8, .inl mM)), (hmD, .inl (cy 1, 8, .inr (.inl mD)))] → va_S A s.heap H locs → lv_has ls 8 [(0, .ref hmo), (1, .int x1)] → k mK mF mH mM mD = some r0 → GX6_know p l e s m args below meth c D cy A hmo hmW hmP hmS hmE hmI hmO hmT hmK hmF hmH hmM hmD hmR hmB mC mN mW mP r0 H locs (F0 m 200 ls [])) : ∀ (n : Nat), ∀ (mK : Nat → Int32) (mF : Nat → Int64) (mH : Nat → Int32) (mM : Nat → Int32) (mD : Nat → Int64) (x2 : Int64) (x4 : Int64) (x6 : Int32) (H : Heap) (locs : List Loc) (ls : Array Slot), va_P D vwCl [(hmo, .inr (5, [.int mC, .ref hmW, .ref hmP, .ref hmS, .ref hmE, .ref hmI, .ref hmO, .ref hmT, .int mN, .ref hmK, .ref hmF, .ref hmH, .ref hmM, .ref hmD, .ref hmR, .ref hmB])), (hmW, .inl (cy 0, 8, .inl mW)), (hmP, .inl (cy 1, 8, .inr (.inl mP))), (hmK, .inl (cy 2, 8, .inl mK)), (hmF, .inl (cy 1, 264, .inr (.inl mF))), (hmH, .inl (cy 0, 264, .inl mH)), (hmM, .inl (cy 0, 8, .inl mM)), (hmD, .inl (cy 1, 8, .inr (.inl mD)))] H → va_D A [(hmo, .inr (5, [.int mC, .ref hmW, .ref hmP, .ref hmS, .ref hmE, .ref hmI, .ref hmO, .ref hmT, .int mN, .ref hmK, .ref hmF, .ref hmH, .ref hmM, .ref hmD, .ref hmR, .ref hmB])), (hmW, .inl (cy 0, 8, .inl mW)), (hmP, .inl (cy 1, 8, .inr (.inl mP))), (hmK, .inl (cy 2, 8, .inl mK)), (hmF, .inl (cy 1, 264, .inr (.inl mF))), (hmH, .inl (cy 0, 264, .inl mH)), (hmM, .inl (cy 0, 8, .inl mM)), (hmD, .inl (cy 1, 8, .inr (.inl mD)))] → va_S A s.heap H locs → lv_has ls 8 [(0, .ref hmo), (1, .int x1), (2, .long x2), (4, .long x4), (6, .int x6)] → fX6_know_L48 N mW mP x1 k n mK mF mH mM mD x2 x4 x6 = some r0 → GX6_know p l e s m args below meth c D cy A hmo hmW hmP hmS hmE hmI hmO hmT hmK hmF hmH hmM hmD hmR hmB mC mN mW mP r0 H locs (F0 m 48 ls []) := by
  intro n
  induction n with
  | zero => intro mK mF mH mM mD x2 x4 x6 H locs ls hP hD hS hl hf; cases hf
  | succ n ih => exact wX6_know_B48 E0 N mW mP x1 hA _ ih k hk
set_option maxHeartbeats 4000000 in
set_option maxRecDepth 100000 in
theorem ctX6_know (l : Launch) (D : va_G) (cy : Nat → ClassId) (N : Nat) (hmo hmW hmP hmS hmE hmI hmO hmT hmK hmF hmH hmM hmD hmR hmB : Nat) (sz : Nat) (mC : Int32) (mN : Int32) (mW : Nat → Int32) (mP : Nat → Int64) (mK : Nat → Int32) (mF : Nat → Int64) (mH : Nat → Int32) (mM : Nat → Int32) (mD : Nat → Int64) (x1 : Int32) (r0 : (Nat → Int32) × (Nat → Int64) × (Nat → Int32) × (Nat → Int32) × (Nat → Int64)) (hf : fX6_know N mW mP mK mF mH mM mD x1 = some r0) : Met l yX6_know wsX6_know rX6_know (va_Pc [.ref hmo, .int x1] (Wr D cy [(hmo, .inr (5, [.int mC, .ref hmW, .ref hmP, .ref hmS, .ref hmE, .ref hmI, .ref hmO, .ref hmT, .int mN, .ref hmK, .ref hmF, .ref hmH, .ref hmM, .ref hmD, .ref hmR, .ref hmB])), (hmW, .inl (cy 0, 8, .inl mW)), (hmP, .inl (cy 1, 8, .inr (.inl mP))), (hmK, .inl (cy 2, 8, .inl mK)), (hmF, .inl (cy 1, 264, .inr (.inl mF))), (hmH, .inl (cy 0, 264, .inl mH)), (hmM, .inl (cy 0, 8, .inl mM)), (hmD, .inl (cy 1, 8, .inr (.inl mD)))] sz)) (Qwv D (va_A [(hmo, .inr (5, [.int mC, .ref hmW, .ref hmP, .ref hmS, .ref hmE, .ref hmI, .ref hmO, .ref hmT, .int mN, .ref hmK, .ref hmF, .ref hmH, .ref hmM, .ref hmD, .ref hmR, .ref hmB])), (hmW, .inl (cy 0, 8, .inl mW)), (hmP, .inl (cy 1, 8, .inr (.inl mP))), (hmK, .inl (cy 2, 8, .inl mK)), (hmF, .inl (cy 1, 264, .inr (.inl mF))), (hmH, .inl (cy 0, 264, .inl mH)), (hmM, .inl (cy 0, 8, .inl mM)), (hmD, .inl (cy 1, 8, .inr (.inl mD)))] sz) [(hmo, .inr (5, [.int mC, .ref hmW, .ref hmP, .ref hmS, .ref hmE, .ref hmI, .ref hmO, .ref hmT, .int mN, .ref hmK, .ref hmF, .ref hmH, .ref hmM, .ref hmD, .ref hmR, .ref hmB])), (hmW, .inl (cy 0, 8, .inl mW)), (hmP, .inl (cy 1, 8, .inr (.inl mP))), (hmK, .inl (cy 2, 8, .inl r0.1)), (hmF, .inl (cy 1, 264, .inr (.inl r0.2.1))), (hmH, .inl (cy 0, 264, .inl r0.2.2.1)), (hmM, .inl (cy 0, 8, .inl r0.2.2.2.1)), (hmD, .inl (cy 1, 8, .inr (.inl r0.2.2.2.2)))]) 0 0 (va_A [(hmo, .inr (5, [.int mC, .ref hmW, .ref hmP, .ref hmS, .ref hmE, .ref hmI, .ref hmO, .ref hmT, .int mN, .ref hmK, .ref hmF, .ref hmH, .ref hmM, .ref hmD, .ref hmR, .ref hmB])), (hmW, .inl (cy 0, 8, .inl mW)), (hmP, .inl (cy 1, 8, .inr (.inl mP))), (hmK, .inl (cy 2, 8, .inl mK)), (hmF, .inl (cy 1, 264, .inr (.inl mF))), (hmH, .inl (cy 0, 264, .inl mH)), (hmM, .inl (cy 0, 8, .inl mM)), (hmD, .inl (cy 1, 8, .inr (.inl mD)))] sz) := by
  refine Met.ofW (cc := cX6_know) (maxL := 8) (ret := none) (by decide) rfl ?_
  intro p e s m args below meth c s₁ B hml hv
  obtain ⟨rfl, hsz, hP, hD0, hB⟩ := hv
  have hx := B.exec
  have hb := B.bytes
  have hr := B.returns
  have hts := atoms_spec (ws := wsX6_know) B.pre
  have hown : s.vm.findClass RX6 = some m.cls := findClass_of_methodNamed B.named
  have hlocks := B.notSynchronized
  have hK := hB.1
  have hN := hB.2
  subst hsz
  have hD := hD0.self (sz := s.heap.size)
  have hA : ∀ q : Nat, s.heap.size ≤ q → va_A [(hmo, .inr (5, [.int mC, .ref hmW, .ref hmP, .ref hmS, .ref hmE, .ref hmI, .ref hmO, .ref hmT, .int mN, .ref hmK, .ref hmF, .ref hmH, .ref hmM, .ref hmD, .ref hmR, .ref hmB])), (hmW, .inl (cy 0, 8, .inl mW)), (hmP, .inl (cy 1, 8, .inr (.inl mP))), (hmK, .inl (cy 2, 8, .inl mK)), (hmF, .inl (cy 1, 264, .inr (.inl mF))), (hmH, .inl (cy 0, 264, .inl mH)), (hmM, .inl (cy 0, 8, .inl mM)), (hmD, .inl (cy 1, 8, .inr (.inl mD)))] s.heap.size q := fun q h => Or.inr h
  generalize va_A [(hmo, .inr (5, [.int mC, .ref hmW, .ref hmP, .ref hmS, .ref hmE, .ref hmI, .ref hmO, .ref hmT, .int mN, .ref hmK, .ref hmF, .ref hmH, .ref hmM, .ref hmD, .ref hmR, .ref hmB])), (hmW, .inl (cy 0, 8, .inl mW)), (hmP, .inl (cy 1, 8, .inr (.inl mP))), (hmK, .inl (cy 2, 8, .inl mK)), (hmF, .inl (cy 1, 264, .inr (.inl mF))), (hmH, .inl (cy 0, 264, .inl mH)), (hmM, .inl (cy 0, 8, .inl mM)), (hmD, .inl (cy 1, 8, .inr (.inl mD)))] s.heap.size = A at hD hA ⊢
  have hS : va_S A s.heap s.heap [] := va_S.rf
  have hl := lv_entry ([.ref hmo, .int x1]) (n := 8) (Nat.le_of_ble_eq_true rfl)
  rw [lg_entry_eq]
  generalize (lg_sl ([.ref hmo, .int x1]) ++ List.replicate (8 - (lg_sl ([.ref hmo, .int x1])).length) Slot.unset).toArray = ls at hl ⊢
  have hl : lv_has ls 8 [(0, .ref hmo), (1, .int x1)] := hl
  have E0 : En p m c cX6_know 8 s ([.ref hmo, .int x1] : List Value).toArray wsX6_know RX6 meth none D cy := ⟨⟨hx, hb, hml, hown, hts⟩, hr, hlocks, hB⟩
  unfold fX6_know at hf
  refine lv_aload_n hx hb dX6_know_0 rfl (lv_at hl 0 rfl) ?_
  refine va_get (D := D) (ci := 5) (v := .ref hmK) (C := RX6) (T := TX6) (N := 16) hx hb hts inX6_know_X6 hown hK hP 0 rfl rfl 9 (by decide) (hts _ mX6_know_0) (fun _ h9 => h9) rfl dX6_know_1 ?_
  refine lv_iload_n hx hb dX6_know_4 rfl (lv_at hl 1 rfl) ?_
  obtain ⟨b_1, hf⟩ := ite_n hf
  refine va_zald hx hb hK hP 3 2 rfl rfl b_1 dX6_know_5 ?_
  refine lv_if_eq (tgt := 10) hx hb dX6_know_6 (by decide) (fun c_2 => ?_) (fun c_2 => ?_)
  · have hf := ite_t hf c_2
    refine lv_aload_n hx hb dX6_know_10 rfl (lv_at hl 0 rfl) ?_
    refine va_get (D := D) (ci := 5) (v := .ref hmK) (C := RX6) (T := TX6) (N := 16) hx hb hts inX6_know_X6 hown hK hP 0 rfl rfl 9 (by decide) (hts _ mX6_know_0) (fun _ h9 => h9) rfl dX6_know_11 ?_
    refine lv_iload_n hx hb dX6_know_14 rfl (lv_at hl 1 rfl) ?_
    refine lv_iconst (v := (1 : Int32)) hx hb dX6_know_15 (by decide) ?_
    obtain ⟨b_3, hf⟩ := ite_n hf
    refine va_zast hx hb hK hP hD hS 3 2 rfl rfl b_3 dX6_know_16 (fun H4 locs5 hP hD hS => ?_)
    have hP : va_P D vwCl [(hmo, .inr (5, [.int mC, .ref hmW, .ref hmP, .ref hmS, .ref hmE, .ref hmI, .ref hmO, .ref hmT, .int mN, .ref hmK, .ref hmF, .ref hmH, .ref hmM, .ref hmD, .ref hmR, .ref hmB])), (hmW, .inl (cy 0, 8, .inl mW)), (hmP, .inl (cy 1, 8, .inr (.inl mP))), (hmK, .inl (cy 2, 8, .inl (upd mK x1.toNatClampNeg (vp_nar .boolean (1 : Int32))))), (hmF, .inl (cy 1, 264, .inr (.inl mF))), (hmH, .inl (cy 0, 264, .inl mH)), (hmM, .inl (cy 0, 8, .inl mM)), (hmD, .inl (cy 1, 8, .inr (.inl mD)))] H4 := hP
    have hD : va_D A [(hmo, .inr (5, [.int mC, .ref hmW, .ref hmP, .ref hmS, .ref hmE, .ref hmI, .ref hmO, .ref hmT, .int mN, .ref hmK, .ref hmF, .ref hmH, .ref hmM, .ref hmD, .ref hmR, .ref hmB])), (hmW, .inl (cy 0, 8, .inl mW)), (hmP, .inl (cy 1, 8, .inr (.inl mP))), (hmK, .inl (cy 2, 8, .inl (upd mK x1.toNatClampNeg (vp_nar .boolean (1 : Int32))))), (hmF, .inl (cy 1, 264, .inr (.inl mF))), (hmH, .inl (cy 0, 264, .inl mH)), (hmM, .inl (cy 0, 8, .inl mM)), (hmD, .inl (cy 1, 8, .inr (.inl mD)))] := hD
    refine lv_aload_n hx hb dX6_know_17 rfl (lv_at hl 0 rfl) ?_
    refine va_get (D := D) (ci := 5) (v := .ref hmM) (C := RX6) (T := TX6) (N := 16) hx hb hts inX6_know_X6 hown hK hP 0 rfl rfl 12 (by decide) (hts _ mX6_know_1) (fun _ h9 => h9) rfl dX6_know_18 ?_
    refine lv_iload_n hx hb dX6_know_21 rfl (lv_at hl 1 rfl) ?_
    refine lv_iconst (v := (0 : Int32)) hx hb dX6_know_22 (by decide) ?_
    obtain ⟨b_6, hf⟩ := ite_n hf
    refine va_iast hx hb hK hP hD hS 6 0 rfl rfl b_6 dX6_know_23 (fun H7 locs8 hP hD hS => ?_)
    have hP : va_P D vwCl [(hmo, .inr (5, [.int mC, .ref hmW, .ref hmP, .ref hmS, .ref hmE, .ref hmI, .ref hmO, .ref hmT, .int mN, .ref hmK, .ref hmF, .ref hmH, .ref hmM, .ref hmD, .ref hmR, .ref hmB])), (hmW, .inl (cy 0, 8, .inl mW)), (hmP, .inl (cy 1, 8, .inr (.inl mP))), (hmK, .inl (cy 2, 8, .inl (upd mK x1.toNatClampNeg (vp_nar .boolean (1 : Int32))))), (hmF, .inl (cy 1, 264, .inr (.inl mF))), (hmH, .inl (cy 0, 264, .inl mH)), (hmM, .inl (cy 0, 8, .inl (upd mM x1.toNatClampNeg (0 : Int32)))), (hmD, .inl (cy 1, 8, .inr (.inl mD)))] H7 := hP
    have hD : va_D A [(hmo, .inr (5, [.int mC, .ref hmW, .ref hmP, .ref hmS, .ref hmE, .ref hmI, .ref hmO, .ref hmT, .int mN, .ref hmK, .ref hmF, .ref hmH, .ref hmM, .ref hmD, .ref hmR, .ref hmB])), (hmW, .inl (cy 0, 8, .inl mW)), (hmP, .inl (cy 1, 8, .inr (.inl mP))), (hmK, .inl (cy 2, 8, .inl (upd mK x1.toNatClampNeg (vp_nar .boolean (1 : Int32))))), (hmF, .inl (cy 1, 264, .inr (.inl mF))), (hmH, .inl (cy 0, 264, .inl mH)), (hmM, .inl (cy 0, 8, .inl (upd mM x1.toNatClampNeg (0 : Int32)))), (hmD, .inl (cy 1, 8, .inr (.inl mD)))] := hD
    refine lv_lconst (v := (1 : Int64)) hx hb dX6_know_24 (by decide) ?_
    refine lv_aload_n hx hb dX6_know_25 rfl (lv_at hl 0 rfl) ?_
    refine va_get (D := D) (ci := 5) (v := .ref hmW) (C := RX6) (T := TX6) (N := 16) hx hb hts inX6_know_X6 hown hK hP 0 rfl rfl 1 (by decide) (hts _ mX6_know_2) (fun _ h9 => h9) rfl dX6_know_26 ?_
    refine lv_iload_n hx hb dX6_know_29 rfl (lv_at hl 1 rfl) ?_
    obtain ⟨b_9, hf⟩ := ite_n hf
    refine va_iald hx hb hK hP 1 0 rfl rfl b_9 dX6_know_30 ?_
    refine zz_lshl hx hb dX6_know_31 ?_
    refine lv_aload_n hx hb dX6_know_32 rfl (lv_at hl 0 rfl) ?_
    refine va_get (D := D) (ci := 5) (v := .ref hmP) (C := RX6) (T := TX6) (N := 16) hx hb hts inX6_know_X6 hown hK hP 0 rfl rfl 2 (by decide) (hts _ mX6_know_3) (fun _ h9 => h9) rfl dX6_know_33 ?_
    refine lv_iload_n hx hb dX6_know_36 rfl (lv_at hl 1 rfl) ?_
    obtain ⟨b_10, hf⟩ := ite_n hf
    refine va_lald hx hb hK hP 2 1 rfl rfl b_10 dX6_know_37 ?_
    refine lv_lor hx hb dX6_know_38 ?_
    refine lv_lstore_n (lv' := [(2, .long ((lShl (1 : Int64) (mW x1.toNatClampNeg)) ||| (mP x1.toNatClampNeg))), (0, .ref hmo), (1, .int x1)]) hx hb dX6_know_39 rfl hl (by decide) rfl (fun ls hl => ?_)
    refine lv_ldc2 (v := (3 : Int64)) hx hb hown (hts _ mX6_know_4) dX6_know_40 ?_
    refine lv_lstore (lv' := [(4, .long (3 : Int64)), (2, .long ((lShl (1 : Int64) (mW x1.toNatClampNeg)) ||| (mP x1.toNatClampNeg))), (0, .ref hmo), (1, .int x1)]) hx hb dX6_know_43 hl (by decide) rfl (fun ls hl => ?_)
    refine lv_iconst (v := (1 : Int32)) hx hb dX6_know_45 (by decide) ?_
    refine lv_istore (lv' := [(6, .int (1 : Int32)), (4, .long (3 : Int64)), (2, .long ((lShl (1 : Int64) (mW x1.toNatClampNeg)) ||| (mP x1.toNatClampNeg))), (0, .ref hmo), (1, .int x1)]) hx hb dX6_know_46 hl (by decide) rfl (fun ls hl => ?_)
    refine wX6_know_L48 E0 N mW mP x1 hA _ (fun mK_50 mF_51 mH_52 mM_53 mD_54 H55 locs56 ls hP hD hS hl hf => ?_) N _ _ _ _ _ _ _ _ _ _ _ hP hD hS (lv_sub hl [3, 4, 2, 1, 0] rfl) hf
    refine lv_aload_n hx hb dX6_know_200 rfl (lv_at hl 0 rfl) ?_
    refine va_get (D := D) (ci := 5) (v := .ref hmD) (C := RX6) (T := TX6) (N := 16) hx hb hts inX6_know_X6 hown hK hP 0 rfl rfl 13 (by decide) (hts _ mX6_know_8) (fun _ h9 => h9) rfl dX6_know_201 ?_
    refine lv_iload_n hx hb dX6_know_204 rfl (lv_at hl 1 rfl) ?_
    refine lv_aload_n hx hb dX6_know_205 rfl (lv_at hl 0 rfl) ?_
    refine lv_iload_n hx hb dX6_know_206 rfl (lv_at hl 1 rfl) ?_
    obtain ⟨r_57, h_58, hf⟩ := bind_some hf
    have hP_r_57 : va_P D vwCl [(hmo, .inr (5, [.int mC, .ref hmW, .ref hmP, .ref hmS, .ref hmE, .ref hmI, .ref hmO, .ref hmT, .int mN, .ref hmK, .ref hmF, .ref hmH, .ref hmM, .ref hmD, .ref hmR, .ref hmB])), (hmW, .inl (cy 0, 8, .inl mW)), (hmP, .inl (cy 1, 8, .inr (.inl mP))), (hmF, .inl (cy 1, 264, .inr (.inl mF_51))), (hmH, .inl (cy 0, 264, .inl mH_52)), (hmM, .inl (cy 0, 8, .inl mM_53))] H55 := hP.sub [0, 1, 2, 4, 5, 6] rfl
    refine cz_l (va_runV (As := [.int x1]) (rest := [.int x1, .ref hmD]) ⟨hx, hb, hml, hown, hts⟩ (ctX6_findOrder l D cy N hmo hmW hmP hmS hmE hmI hmO hmT hmK hmF hmH hmM hmD hmR hmB mC mN mW mP mF_51 mH_52 mM_53 x1 r_57 h_58) (cwV 1 hts gX6_know_X6_findOrder rfl rfl rfl (by decide +kernel) ⟨Nat.le_of_ble_eq_true rfl, Nat.le_of_ble_eq_true rfl⟩) (preV_rd (ci := 5) (q0 := 0) [.int x1] hP_r_57 hB rfl rfl) rfl rfl hl.1 rfl (lv_room (Nat.le_of_ble_eq_true rfl)) dX6_know_207 ⟨Nat.zero_le _, Nat.zero_le _⟩) ?_
    obtain ⟨b_59, hf⟩ := ite_n hf
    refine va_last hx hb hK hP hD hS 7 1 rfl rfl b_59 dX6_know_210 (fun H60 locs61 hP hD hS => ?_)
    have hP : va_P D vwCl [(hmo, .inr (5, [.int mC, .ref hmW, .ref hmP, .ref hmS, .ref hmE, .ref hmI, .ref hmO, .ref hmT, .int mN, .ref hmK, .ref hmF, .ref hmH, .ref hmM, .ref hmD, .ref hmR, .ref hmB])), (hmW, .inl (cy 0, 8, .inl mW)), (hmP, .inl (cy 1, 8, .inr (.inl mP))), (hmK, .inl (cy 2, 8, .inl mK_50)), (hmF, .inl (cy 1, 264, .inr (.inl mF_51))), (hmH, .inl (cy 0, 264, .inl mH_52)), (hmM, .inl (cy 0, 8, .inl mM_53)), (hmD, .inl (cy 1, 8, .inr (.inl (vp_updL mD_54 x1.toNatClampNeg r_57))))] H60 := hP
    have hD : va_D A [(hmo, .inr (5, [.int mC, .ref hmW, .ref hmP, .ref hmS, .ref hmE, .ref hmI, .ref hmO, .ref hmT, .int mN, .ref hmK, .ref hmF, .ref hmH, .ref hmM, .ref hmD, .ref hmR, .ref hmB])), (hmW, .inl (cy 0, 8, .inl mW)), (hmP, .inl (cy 1, 8, .inr (.inl mP))), (hmK, .inl (cy 2, 8, .inl mK_50)), (hmF, .inl (cy 1, 264, .inr (.inl mF_51))), (hmH, .inl (cy 0, 264, .inl mH_52)), (hmM, .inl (cy 0, 8, .inl mM_53)), (hmD, .inl (cy 1, 8, .inr (.inl (vp_updL mD_54 x1.toNatClampNeg r_57))))] := hD
    cases hf
    exact W.vret hx hb hr (fun t ht hW => ⟨⟨(), rfl, trivial, by rw [ht]; exact hP, hD⟩, hS.F ht⟩) hS.2.2 dX6_know_211
  · have hf := ite_f hf c_2
    cases hf
    exact W.vret hx hb hr (fun t ht hW => ⟨⟨(), rfl, trivial, by rw [ht]; exact hP, hD⟩, hS.F ht⟩) hS.2.2 dX6_know_9

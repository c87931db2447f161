/-! SumFormsModel.distance(II)I -/
abbrev rX6_distance : Room := { frames := 1, cells := 0, slots := 0, locals := 27 }
theorem mX6_distance_0 : Cond.fieldLink RX6 48 "SumFormsModel" "rests" "[J" ∈ wsX6_distance := by decide +kernel
theorem inX6_distance_X6 : ∀ w ∈ u_ws RX6 TX6 16, w ∈ wsX6_distance := by decide +kernel
abbrev GX6_distance (p : Program) (l : Launch) (e : Env) (s : State) (m : MethodId) (args : Array Value) (below : List Frame) (meth : Method) (c : Code) (D : va_G) (cy : Nat → ClassId) (A : Nat → Prop) (hmo : Nat) (hmW : Nat) (hmP : Nat) (hmS : Nat) (hmE : Nat) (hmI : Nat) (hmO : Nat) (hmT : Nat) (hmK : Nat) (hmF : Nat) (hmH : Nat) (hmM : Nat) (hmD : Nat) (hmR : Nat) (hmB : Nat) (mC : Int32) (mN : Int32) (mW : Nat → Int32) (mP : Nat → Int64) (r0 : Int32 × (Nat → Int64) × (Nat → Int64)) (H : Heap) (locs : List Loc) (fr : JFrame) : Prop := W p l e (headSpec wsX6_distance rX6_distance).room s m args below meth c H locs 0 0 (MQ below (Qwi D A [(hmo, .inr (5, [.int mC, .ref hmW, .ref hmP, .ref hmS, .ref hmE, .ref hmI, .ref hmO, .ref hmT, .int mN, .ref hmK, .ref hmF, .ref hmH, .ref hmM, .ref hmD, .ref hmR, .ref hmB])), (hmW, .inl (cy 0, 8, .inl mW)), (hmP, .inl (cy 1, 8, .inr (.inl mP))), (hmR, .inl (cy 1, 200, .inr (.inl r0.2.1))), (hmB, .inl (cy 1, 65536, .inr (.inl r0.2.2)))] r0.1) args s 0 0 A) fr
def fX6_distance_B31 (N : Nat) (mC : Int32) (mW : Nat → Int32) (mP : Nat → Int64) (x1 : Int32) (x2 : Int32) (self : (Nat → Int64) → (Nat → Int64) → Int64 → Int32 → Option (Int32 × (Nat → Int64) × (Nat → Int64))) (k : (Nat → Int64) → (Nat → Int64) → Option (Int32 × (Nat → Int64) × (Nat → Int64))) (mR : Nat → Int64) (mB : Nat → Int64) (x3 : Int64) (x5 : Int32) : Option (Int32 × (Nat → Int64) × (Nat → Int64)) := (if x2 ≤ x5 then (k mR mB) else (if OOB x5 200 then none else ((fX6_up N mW mP x1 x3).bind (fun r_14 => (if OOB x5 200 then none else ((fX6_had N mB ((vp_updL mR x5.toNatClampNeg x3) x5.toNatClampNeg) (1 : Int32)).bind (fun r_17 => (if r_17.1 = 0 then (self (vp_updL mR x5.toNatClampNeg x3) r_17.2 r_14 (x5 + (1 : Int32))) else (some ((2 : Int32), (vp_updL mR x5.toNatClampNeg x3), r_17.2))))))))))
def fX6_distance_L31 (N : Nat) (mC : Int32) (mW : Nat → Int32) (mP : Nat → Int64) (x1 : Int32) (x2 : Int32) (k : (Nat → Int64) → (Nat → Int64) → Option (Int32 × (Nat → Int64) × (Nat → Int64))) : Nat → (Nat → Int64) → (Nat → Int64) → Int64 → Int32 → Option (Int32 × (Nat → Int64) × (Nat → Int64))
  | 0 => fun _ _ _ _ => none
  | n + 1 => fun mR mB x3 x5 => fX6_distance_B31 N mC mW mP x1 x2 (fX6_distance_L31 N mC mW mP x1 x2 k n) k mR mB x3 x5
def fX6_distance_B87 (N : Nat) (mC : Int32) (mW : Nat → Int32) (mP : Nat → Int64) (x2 : Int32) (x5 : Int32) (self : (Nat → Int64) → (Nat → Int64) → Int32 → Option (Int32 × (Nat → Int64) × (Nat → Int64))) (k : (Nat → Int64) → (Nat → Int64) → Option (Int32 × (Nat → Int64) × (Nat → Int64))) (mR : Nat → Int64) (mB : Nat → Int64) (x6 : Int32) : Option (Int32 × (Nat → Int64) × (Nat → Int64)) := (if x5 ≤ x6 then (k mR mB) else (if OOB x5 200 then none else (if OOB x6 200 then none else ((fX6_had N mB ((mR x5.toNatClampNeg) ^^^ (mR x6.toNatClampNeg)) (0 : Int32)).bind (fun r_30 => (if r_30.1 = 0 then (self mR r_30.2 (x6 + (1 : Int32))) else (some ((3 : Int32), mR, r_30.2))))))))
def fX6_distance_L87 (N : Nat) (mC : Int32) (mW : Nat → Int32) (mP : Nat → Int64) (x2 : Int32) (x5 : Int32) (k : (Nat → Int64) → (Nat → Int64) → Option (Int32 × (Nat → Int64) × (Nat → Int64))) : Nat → (Nat → Int64) → (Nat → Int64) → Int32 → Option (Int32 × (Nat → Int64) × (Nat → Int64))
  | 0 => fun _ _ _ => none
  | n + 1 => fun mR mB x6 => fX6_distance_B87 N mC mW mP x2 x5 (fX6_distance_L87 N mC mW mP x2 x5 k n) k mR mB x6
def fX6_distance_B78 (N : Nat) (mC : Int32) (mW : Nat → Int32) (mP : Nat → Int64) (x2 : Int32) (self : (Nat → Int64) → (Nat → Int64) → Int32 → Option (Int32 × (Nat → Int64) × (Nat → Int64))) (k : (Nat → Int64) → (Nat → Int64) → Option (Int32 × (Nat → Int64) × (Nat → Int64))) (mR : Nat → Int64) (mB : Nat → Int64) (x5 : Int32) : Option (Int32 × (Nat → Int64) × (Nat → Int64)) := (if x2 ≤ x5 then (k mR mB) else (fX6_distance_L87 N mC mW mP x2 x5 (fun mR_35 mB_36 => (self mR_35 mB_36 (x5 + (1 : Int32)))) N mR mB (0 : Int32)))
def fX6_distance_L78 (N : Nat) (mC : Int32) (mW : Nat → Int32) (mP : Nat → Int64) (x2 : Int32) (k : (Nat → Int64) → (Nat → Int64) → Option (Int32 × (Nat → Int64) × (Nat → Int64))) : Nat → (Nat → Int64) → (Nat → Int64) → Int32 → Option (Int32 × (Nat → Int64) × (Nat → Int64))
  | 0 => fun _ _ _ => none
  | n + 1 => fun mR mB x5 => fX6_distance_B78 N mC mW mP x2 (fX6_distance_L78 N mC mW mP x2 k n) k mR mB x5
def fX6_distance_B147 (N : Nat) (mC : Int32) (mW : Nat → Int32) (mP : Nat → Int64) (x2 : Int32) (x5 : Int32) (self : (Nat → Int64) → (Nat → Int64) → Int32 → Option (Int32 × (Nat → Int64) × (Nat → Int64))) (k : (Nat → Int64) → (Nat → Int64) → Option (Int32 × (Nat → Int64) × (Nat → Int64))) (mR : Nat → Int64) (mB : Nat → Int64) (x6 : Int32) : Option (Int32 × (Nat → Int64) × (Nat → Int64)) := (if x5 ≤ x6 then (k mR mB) else (if OOB x5 200 then none else (if OOB x6 200 then none else ((fX6_had N mB ((mR x5.toNatClampNeg) ^^^ (mR x6.toNatClampNeg)) (1 : Int32)).bind (fun r_51 => (if r_51.1 = 0 then (self mR r_51.2 (x6 + (1 : Int32))) else (some ((4 : Int32), mR, r_51.2))))))))
def fX6_distance_L147 (N : Nat) (mC : Int32) (mW : Nat → Int32) (mP : Nat → Int64) (x2 : Int32) (x5 : Int32) (k : (Nat → Int64) → (Nat → Int64) → Option (Int32 × (Nat → Int64) × (Nat → Int64))) : Nat → (Nat → Int64) → (Nat → Int64) → Int32 → Option (Int32 × (Nat → Int64) × (Nat → Int64))
  | 0 => fun _ _ _ => none
  | n + 1 => fun mR mB x6 => fX6_distance_B147 N mC mW mP x2 x5 (fX6_distance_L147 N mC mW mP x2 x5 k n) k mR mB x6
def fX6_distance_B138 (N : Nat) (mC : Int32) (mW : Nat → Int32) (mP : Nat → Int64) (x2 : Int32) (self : (Nat → Int64) → (Nat → Int64) → Int32 → Option (Int32 × (Nat → Int64) × (Nat → Int64))) (k : (Nat → Int64) → (Nat → Int64) → Option (Int32 × (Nat → Int64) × (Nat → Int64))) (mR : Nat → Int64) (mB : Nat → Int64) (x5 : Int32) : Option (Int32 × (Nat → Int64) × (Nat → Int64)) := (if x2 ≤ x5 then (k mR mB) else (fX6_distance_L147 N mC mW mP x2 x5 (fun mR_56 mB_57 => (self mR_56 mB_57 (x5 + (1 : Int32)))) N mR mB (0 : Int32)))
def fX6_distance_L138 (N : Nat) (mC : Int32) (mW : Nat → Int32) (mP : Nat → Int64) (x2 : Int32) (k : (Nat → Int64) → (Nat → Int64) → Option (Int32 × (Nat → Int64) × (Nat → Int64))) : Nat → (Nat → Int64) → (Nat → Int64) → Int32 → Option (Int32 × (Nat → Int64) × (Nat → Int64))
  | 0 => fun _ _ _ => none
  | n + 1 => fun mR mB x5 => fX6_distance_B138 N mC mW mP x2 (fX6_distance_L138 N mC mW mP x2 k n) k mR mB x5
def fX6_distance (N : Nat) (mC : Int32) (mW : Nat → Int32) (mP : Nat → Int64) (mR : Nat → Int64) (mB : Nat → Int64) (x1 : Int32) (x2 : Int32) : Option (Int32 × (Nat → Int64) × (Nat → Int64)) := ((fX6_isForm N mC x1).bind (fun r_1 => (if r_1 = 0 then (some ((-1 : Int32), mR, mB)) else (if x2 < (1 : Int32) then (some ((-1 : Int32), mR, mB)) else (if x2 ≤ (200 : Int32) then ((fX6_clear N mB).bind (fun r_6 => (fX6_distance_L31 N mC mW mP x1 x2 (fun mR_22 mB_23 => (fX6_distance_L78 N mC mW mP x2 (fun mR_39 mB_40 => ((fX6_clear N mB_40).bind (fun r_43 => (fX6_distance_L138 N mC mW mP x2 (fun mR_60 mB_61 => (some ((5 : Int32), mR_60, mB_61))) N mR_39 r_43 (0 : Int32))))) N mR_22 mB_23 (0 : Int32))) N mR r_6 (1 : Int64) (0 : Int32)))) else (some ((-1 : Int32), mR, mB)))))))
set_option maxHeartbeats 4000000 in
set_option maxRecDepth 100000 in
theorem wX6_distance_B31 {p : Program} {l : Launch} {e : Env} {s : State} {m : MethodId} {args : Array Value} {below : List Frame} {meth : Method} {c : Code} {D : va_G} {cy : Nat → ClassId} {A : Nat → Prop} {hmo hmW hmP hmS hmE hmI hmO hmT hmK hmF hmH hmM hmD hmR hmB : Nat} {mN : Int32} {r0 : Int32 × (Nat → Int64) × (Nat → Int64)} (E0 : En p m c cX6_distance 7 s args wsX6_distance RX6 meth (some .int) D cy) (N : Nat) (mC : Int32) (mW : Nat → Int32) (mP : Nat → Int64) (x1 : Int32) (x2 : Int32) (hA : ∀ q, s.heap.size ≤ q → A q) (self : (Nat → Int64) → (Nat → Int64) → Int64 → Int32 → Option (Int32 × (Nat → Int64) × (Nat → Int64))) (hself : ∀ (mR : Nat → Int64) (mB : Nat → Int64) (x3 : Int64) (x5 : Int32) (H : Heap) (locs : List Loc) (ls : Array Slot), va_P D vwCl [(hmo, .inr (5, [.int mC, .ref hmW, .ref hmP, .ref hmS, .ref hmE, .ref hmI, .ref hmO, .ref hmT, .int mN, .ref hmK, .ref hmF, .ref hmH, .ref hmM, .ref hmD, .ref hmR, .ref hmB])), (hmW, .inl (cy 0, 8, .inl mW)), (hmP, .inl (cy 1, 8, .inr (.inl mP))), (hmR, .inl (cy 1, 200, .inr (.inl mR))), (hmB, .inl (cy 1, 65536, .inr (.inl mB)))] H → va_D A [(hmo, .inr (5, [.int mC, .ref hmW, .ref hmP, .ref hmS, .ref hmE, .ref hmI, .ref hmO, .ref hmT, .int mN, .ref hmK, .ref hmF, .ref hmH, .ref hmM, .ref hmD, .ref hmR, .ref hmB])), (hmW, .inl (cy 0, 8, .inl mW)), (hmP, .inl (cy 1, 8, .inr (.inl mP))), (hmR, .inl (cy 1, 200, .inr (.inl mR))), (hmB, .inl (cy 1, 65536, .inr (.inl mB)))] → va_S A s.heap H locs → lv_has ls 7 [(0, .ref hmo), (1, .int x1), (2, .int x2), (3, .long x3), (5, .int x5)] → self mR mB x3 x5 = some r0 → GX6_distance p l e s m args below meth c D cy A hmo hmW hmP hmS hmE hmI hmO hmT hmK hmF hmH hmM hmD hmR hmB mC mN mW mP r0 H locs (F0 m 31 ls [])) (k : (Nat → Int64) → (Nat → Int64) → Option (Int32 × (Nat → Int64) × (Nat → Int64))) (hk : ∀ (mR : Nat → Int64) (mB : Nat → Int64) (H : Heap) (locs : List Loc) (ls : Array Slot), va_P D vwCl [(hmo, .inr (5, [.int mC, .ref hmW, .ref hmP, .ref hmS, .ref hmE, .ref hmI, .ref hmO, .ref hmT, .int mN, .ref hmK, .ref hmF, .ref hmH, .ref hmM, .ref hmD, .ref hmR, .ref hmB])), (hmW, .inl (cy 0, 8, .inl mW)), (hmP, .inl (cy 1, 8, .inr (.inl mP))), (hmR, .inl (cy 1, 200, .inr (.inl mR))), (hmB, .inl (cy 1, 65536, .inr (.inl mB)))] H → va_D A [(hmo, .inr (5, [.int mC, .ref hmW, .ref hmP, .ref hmS, .ref hmE, .ref hmI, .ref hmO, .ref hmT, .int mN, .ref hmK, .ref hmF, .ref hmH, .ref hmM, .ref hmD, .ref hmR, .ref hmB])), (hmW, .inl (cy 0, 8, .inl mW)), (hmP, .inl (cy 1, 8, .inr (.inl mP))), (hmR, .inl (cy 1, 200, .inr (.inl mR))), (hmB, .inl (cy 1, 65536, .inr (.inl mB)))] → va_S A s.heap H locs → lv_has ls 7 [(0, .ref hmo), (2, .int x2)] → k mR mB = some r0 → GX6_distance p l e s m args below meth c D cy A hmo hmW hmP hmS hmE hmI hmO hmT hmK hmF hmH hmM hmD hmR hmB mC mN mW mP r0 H locs (F0 m 75 ls [])) : ∀ (mR : Nat → Int64) (mB : Nat → Int64) (x3 : Int64) (x5 : Int32) (H : Heap) (locs : List Loc) (ls : Array Slot), va_P D vwCl [(hmo, .inr (5, [.int mC, .ref hmW, .ref hmP, .ref hmS, .ref hmE, .ref hmI, .ref hmO, .ref hmT, .int mN, .ref hmK, .ref hmF, .ref hmH, .ref hmM, .ref hmD, .ref hmR, .ref hmB])), (hmW, .inl (cy 0, 8, .inl mW)), (hmP, .inl (cy 1, 8, .inr (.inl mP))), (hmR, .inl (cy 1, 200, .inr (.inl mR))), (hmB, .inl (cy 1, 65536, .inr (.inl mB)))] H → va_D A [(hmo, .inr (5, [.int mC, .ref hmW, .ref hmP, .ref hmS, .ref hmE, .ref hmI, .ref hmO, .ref hmT, .int mN, .ref hmK, .ref hmF, .ref hmH, .ref hmM, .ref hmD, .ref hmR, .ref hmB])), (hmW, .inl (cy 0, 8, .inl mW)), (hmP, .inl (cy 1, 8, .inr (.inl mP))), (hmR, .inl (cy 1, 200, .inr (.inl mR))), (hmB, .inl (cy 1, 65536, .inr (.inl mB)))] → va_S A s.heap H locs → lv_has ls 7 [(0, .ref hmo), (1, .int x1), (2, .int x2), (3, .long x3), (5, .int x5)] → fX6_distance_B31 N mC mW mP x1 x2 self k mR mB x3 x5 = some r0 → GX6_distance p l e s m args below meth c D cy A hmo hmW hmP hmS hmE hmI hmO hmT hmK hmF hmH hmM hmD hmR hmB mC mN mW mP r0 H locs (F0 m 31 ls []) := by
  obtain ⟨⟨hx, hb, hml, hown, hts⟩, hr, hlocks, hB⟩ := id E0
  have hK := hB.1
  have hN := hB.2
  intro mR mB x3 x5 H locs ls hP hD hS hl hf
  unfold fX6_distance_B31 at hf
  refine lv_iload hx hb dX6_distance_31 (lv_at hl 4 rfl) ?_
  refine lv_iload_n hx hb dX6_distance_33 rfl (lv_at hl 2 rfl) ?_
  refine lv_icmp_ge (tgt := 75) hx hb dX6_distance_34 (by decide) (fun c_10 => ?_) (fun c_10 => ?_)
  · have hf := ite_t hf c_10
    exact hk _ _ _ _ _ hP hD hS (lv_sub hl [0, 2] rfl) hf
  · have hf := ite_f hf c_10
    refine lv_aload_n hx hb dX6_distance_37 rfl (lv_at hl 0 rfl) ?_
    refine va_get (D := D) (ci := 5) (v := .ref hmR) (C := RX6) (T := TX6) (N := 16) hx hb hts inX6_distance_X6 hown hK hP 0 rfl rfl 14 (by decide) (hts _ mX6_distance_0) (fun _ h9 => h9) rfl dX6_distance_38 ?_
    refine lv_iload hx hb dX6_distance_41 (lv_at hl 4 rfl) ?_
    refine lv_lload_n hx hb dX6_distance_43 rfl (lv_at hl 3 rfl) ?_
    obtain ⟨b_11, hf⟩ := ite_n hf
    refine va_last hx hb hK hP hD hS 3 1 rfl rfl b_11 dX6_distance_44 (fun H12 locs13 hP hD hS => ?_)
    have hP : va_P D vwCl [(hmo, .inr (5, [.int mC, .ref hmW, .ref hmP, .ref hmS, .ref hmE, .ref hmI, .ref hmO, .ref hmT, .int mN, .ref hmK, .ref hmF, .ref hmH, .ref hmM, .ref hmD, .ref hmR, .ref hmB])), (hmW, .inl (cy 0, 8, .inl mW)), (hmP, .inl (cy 1, 8, .inr (.inl mP))), (hmR, .inl (cy 1, 200, .inr (.inl (vp_updL mR x5.toNatClampNeg x3)))), (hmB, .inl (cy 1, 65536, .inr (.inl mB)))] H12 := hP
    have hD : va_D A [(hmo, .inr (5, [.int mC, .ref hmW, .ref hmP, .ref hmS, .ref hmE, .ref hmI, .ref hmO, .ref hmT, .int mN, .ref hmK, .ref hmF, .ref hmH, .ref hmM, .ref hmD, .ref hmR, .ref hmB])), (hmW, .inl (cy 0, 8, .inl mW)), (hmP, .inl (cy 1, 8, .inr (.inl mP))), (hmR, .inl (cy 1, 200, .inr (.inl (vp_updL mR x5.toNatClampNeg x3)))), (hmB, .inl (cy 1, 65536, .inr (.inl mB)))] := hD
    refine lv_aload_n hx hb dX6_distance_45 rfl (lv_at hl 0 rfl) ?_
    refine lv_iload_n hx hb dX6_distance_46 rfl (lv_at hl 1 rfl) ?_
    refine lv_lload_n hx hb dX6_distance_47 rfl (lv_at hl 3 rfl) ?_
    obtain ⟨r_14, h_15, hf⟩ := bind_some hf
    have hP_r_14 : va_P D vwCl [(hmo, .inr (5, [.int mC, .ref hmW, .ref hmP, .ref hmS, .ref hmE, .ref hmI, .ref hmO, .ref hmT, .int mN, .ref hmK, .ref hmF, .ref hmH, .ref hmM, .ref hmD, .ref hmR, .ref hmB])), (hmW, .inl (cy 0, 8, .inl mW)), (hmP, .inl (cy 1, 8, .inr (.inl mP)))] H12 := hP.sub [0, 1, 2] rfl
    refine cz_l (va_runV (As := [.int x1, .long x3]) (rest := []) ⟨hx, hb, hml, hown, hts⟩ (ctX6_up l D cy N hmo hmW hmP hmS hmE hmI hmO hmT hmK hmF hmH hmM hmD hmR hmB mC mN mW mP x1 x3 r_14 h_15) (cwV 2 hts gX6_distance_X6_up rfl rfl rfl (by decide +kernel) ⟨Nat.le_of_ble_eq_true rfl, Nat.le_of_ble_eq_true rfl⟩) (preV_rd (ci := 5) (q0 := 0) [.int x1, .long x3] hP_r_14 hB rfl rfl) rfl rfl hl.1 rfl (lv_room (Nat.le_of_ble_eq_true rfl)) dX6_distance_48 ⟨Nat.zero_le _, Nat.zero_le _⟩) ?_
    refine lv_lstore_n (lv' := [(3, .long r_14), (0, .ref hmo), (1, .int x1), (2, .int x2), (5, .int x5)]) hx hb dX6_distance_51 rfl hl (by decide) rfl (fun ls hl => ?_)
    refine lv_aload_n hx hb dX6_distance_52 rfl (lv_at hl 1 rfl) ?_
    refine lv_aload_n hx hb dX6_distance_53 rfl (lv_at hl 1 rfl) ?_
    refine va_get (D := D) (ci := 5) (v := .ref hmR) (C := RX6) (T := TX6) (N := 16) hx hb hts inX6_distance_X6 hown hK hP 0 rfl rfl 14 (by decide) (hts _ mX6_distance_0) (fun _ h9 => h9) rfl dX6_distance_54 ?_
    refine lv_iload hx hb dX6_distance_57 (lv_at hl 4 rfl) ?_
    obtain ⟨b_16, hf⟩ := ite_n hf
    refine va_lald hx hb hK hP 3 1 rfl rfl b_16 dX6_distance_59 ?_
    refine lv_iconst (v := (1 : Int32)) hx hb dX6_distance_60 (by decide) ?_
    obtain ⟨r_17, h_18, hf⟩ := bind_some hf
    have hP_r_17 : va_P D vwCl [(hmo, .inr (5, [.int mC, .ref hmW, .ref hmP, .ref hmS, .ref hmE, .ref hmI, .ref hmO, .ref hmT, .int mN, .ref hmK, .ref hmF, .ref hmH, .ref hmM, .ref hmD, .ref hmR, .ref hmB])), (hmB, .inl (cy 1, 65536, .inr (.inl mB)))] H12 := hP.sub [0, 4] rfl
    have hD_r_17 : va_D A [(hmo, .inr (5, [.int mC, .ref hmW, .ref hmP, .ref hmS, .ref hmE, .ref hmI, .ref hmO, .ref hmT, .int mN, .ref hmK, .ref hmF, .ref hmH, .ref hmM, .ref hmD, .ref hmR, .ref hmB])), (hmB, .inl (cy 1, 65536, .inr (.inl mB)))] := hD.sub [0, 4] (by decide) rfl
    refine cj_i (wc := [(hmo, .inr (5, [.int mC, .ref hmW, .ref hmP, .ref hmS, .ref hmE, .ref hmI, .ref hmO, .ref hmT, .int mN, .ref hmK, .ref hmF, .ref hmH, .ref hmM, .ref hmD, .ref hmR, .ref hmB])), (hmB, .inl (cy 1, 65536, .inr (.inl mB)))]) (wr := [(hmW, .inl (cy 0, 8, .inl mW)), (hmP, .inl (cy 1, 8, .inr (.inl mP))), (hmR, .inl (cy 1, 200, .inr (.inl (vp_updL mR x5.toNatClampNeg x3))))]) (w1 := [(hmo, .inr (5, [.int mC, .ref hmW, .ref hmP, .ref hmS, .ref hmE, .ref hmI, .ref hmO, .ref hmT, .int mN, .ref hmK, .ref hmF, .ref hmH, .ref hmM, .ref hmD, .ref hmR, .ref hmB])), (hmB, .inl (cy 1, 65536, .inr (.inl r_17.2)))]) [0, 4] [1, 2, 3] (va_runV (As := [.long ((vp_updL mR x5.toNatClampNeg x3) x5.toNatClampNeg), .int (1 : Int32)]) (rest := []) ⟨hx, hb, hml, hown, hts⟩ (ctX6_had l D cy N hmo hmW hmP hmS hmE hmI hmO hmT hmK hmF hmH hmM hmD hmR hmB H12.size mC mN mB ((vp_updL mR x5.toNatClampNeg x3) x5.toNatClampNeg) (1 : Int32) r_17 h_18) (cwV 2 hts gX6_distance_X6_had rfl rfl rfl (by decide +kernel) ⟨Nat.le_of_ble_eq_true rfl, Nat.le_of_ble_eq_true rfl⟩) (preV_wr (ci := 5) (q0 := 0) [.long ((vp_updL mR x5.toNatClampNeg x3) x5.toNatClampNeg), .int (1 : Int32)] hP_r_17 hD_r_17 hB rfl rfl) rfl rfl hl.1 rfl (lv_room (Nat.le_of_ble_eq_true rfl)) dX6_distance_61 ⟨Nat.zero_le _, Nat.zero_le _⟩) hP hD hS hA rfl rfl (by decide) (by decide) (fun H19 locs20 hP hD hS => ?_)
    have hP : va_P D vwCl [(hmo, .inr (5, [.int mC, .ref hmW, .ref hmP, .ref hmS, .ref hmE, .ref hmI, .ref hmO, .ref hmT, .int mN, .ref hmK, .ref hmF, .ref hmH, .ref hmM, .ref hmD, .ref hmR, .ref hmB])), (hmW, .inl (cy 0, 8, .inl mW)), (hmP, .inl (cy 1, 8, .inr (.inl mP))), (hmR, .inl (cy 1, 200, .inr (.inl (vp_updL mR x5.toNatClampNeg x3)))), (hmB, .inl (cy 1, 65536, .inr (.inl r_17.2)))] H19 := hP.sub [3, 0, 1, 2, 4] rfl
    have hD : va_D A [(hmo, .inr (5, [.int mC, .ref hmW, .ref hmP, .ref hmS, .ref hmE, .ref hmI, .ref hmO, .ref hmT, .int mN, .ref hmK, .ref hmF, .ref hmH, .ref hmM, .ref hmD, .ref hmR, .ref hmB])), (hmW, .inl (cy 0, 8, .inl mW)), (hmP, .inl (cy 1, 8, .inr (.inl mP))), (hmR, .inl (cy 1, 200, .inr (.inl (vp_updL mR x5.toNatClampNeg x3)))), (hmB, .inl (cy 1, 65536, .inr (.inl r_17.2)))] := hD.sub [3, 0, 1, 2, 4] (by decide) rfl
    refine lv_if_eq (tgt := 69) hx hb dX6_distance_64 (by decide) (fun c_21 => ?_) (fun c_21 => ?_)
    · have hf := ite_t hf c_21
      refine lv_iinc (v := (x5 + (1 : Int32))) (lv' := [(5, .int (x5 + (1 : Int32))), (3, .long r_14), (0, .ref hmo), (1, .int x1), (2, .int x2)]) hx hb dX6_distance_69 hl (k := 4) rfl rfl (by decide) rfl (fun ls hl => ?_)
      refine lv_goto (tgt := 31) hx hb dX6_distance_72 (by decide) ?_
      exact hself _ _ _ _ _ _ _ hP hD hS (lv_sub hl [2, 3, 4, 1, 0] rfl) hf
    · have hf := ite_f hf c_21
      refine lv_iconst (v := (2 : Int32)) hx hb dX6_distance_67 (by decide) ?_
      cases hf
      exact W.iret (v := (2 : Int32)) hx hb hr (fun t ht hW => ⟨⟨_, (), rfl, rfl, by rw [ht]; exact hP, hD⟩, hS.F ht⟩) hS.2.2 dX6_distance_68
theorem wX6_distance_L31 {p : Program} {l : Launch} {e : Env} {s : State} {m : MethodId} {args : Array Value} {below : List Frame} {meth : Method} {c : Code} {D : va_G} {cy : Nat → ClassId} {A : Nat → Prop} {hmo hmW hmP hmS hmE hmI hmO hmT hmK hmF hmH hmM hmD hmR hmB : Nat} {mN : Int32} {r0 : Int32 × (Nat → Int64) × (Nat → Int64)} (E0 : En p m c cX6_distance 7 s args wsX6_distance RX6 meth (some .int) D cy) (N : Nat) (mC : Int32) (mW : Nat → Int32) (mP : Nat → Int64) (x1 : Int32) (x2 : Int32) (hA : ∀ q, s.heap.size ≤ q → A q) (k : (Nat → Int64) → (Nat → Int64) → Option (Int32 × (Nat → Int64) × (Nat → Int64))) (hk : ∀ (mR : Nat → Int64) (mB : Nat → Int64) (H : Heap) (locs : List Loc) (ls : Array Slot), va_P D vwCl [(hmo, .inr (5, [.int mC, .ref hmW, .ref hmP, .ref hmS, .ref hmE, .ref hmI, .ref hmO, .ref hmT, .int mN, .ref hmK, .ref hmF, .ref hmH, .ref hmM, .ref hmD, .ref hmR, .ref hmB])), (hmW, .inl (cy 0, 8, .inl mW)), (hmP, .inl (cy 1, 8, .inr (.inl mP))), (hmR, .inl (cy 1, 200, .inr (.inl mR))), (hmB, .inl (cy 1, 65536, .inr (.inl mB)))] H → va_D A [(hmo, .inr (5, [.int mC, .ref hmW, .ref hmP, .ref hmS, .ref hmE, .ref hmI, .ref hmO, .ref hmT, .int mN, .ref hmK, .ref hmF, .ref hmH, .ref hmM, .ref hmD, .ref hmR, .ref hmB])), (hmW, .inl (cy 0, 8, .inl mW)), (hmP, .inl (cy 1, 8, .inr (.inl mP))), (hmR, .inl (cy 1, 200, .inr (.inl mR))), (hmB, .inl (cy 1, 65536, .inr (.inl mB)))] → va_S A s.heap H locs → lv_has ls 7 [(0, .ref hmo), (2, .int x2)] → k mR mB = some r0 → GX6_distance p l e s m args below meth c D cy A hmo hmW hmP hmS hmE hmI hmO hmT hmK hmF hmH hmM hmD hmR hmB mC mN mW mP r0 H locs (F0 m 75 ls [])) : ∀ (n : Nat), ∀ (mR : Nat → Int64) (mB : Nat → Int64) (x3 : Int64) (x5 : Int32) (H : Heap) (locs : List Loc) (ls : Array Slot), va_P D vwCl [(hmo, .inr (5, [.int mC, .ref hmW, .ref hmP, .ref hmS, .ref hmE, .ref hmI, .ref hmO, .ref hmT, .int mN, .ref hmK, .ref hmF, .ref hmH, .ref hmM, .ref hmD, .ref hmR, .ref hmB])), (hmW, .inl (cy 0, 8, .inl mW)), (hmP, .inl (cy 1, 8, .inr (.inl mP))), (hmR, .inl (cy 1, 200, .inr (.inl mR))), (hmB, .inl (cy 1, 65536, .inr (.inl mB)))] H → va_D A [(hmo, .inr (5, [.int mC, .ref hmW, .ref hmP, .ref hmS, .ref hmE, .ref hmI, .ref hmO, .ref hmT, .int mN, .ref hmK, .ref hmF, .ref hmH, .ref hmM, .ref hmD, .ref hmR, .ref hmB])), (hmW, .inl (cy 0, 8, .inl mW)), (hmP, .inl (cy 1, 8, .inr (.inl mP))), (hmR, .inl (cy 1, 200, .inr (.inl mR))), (hmB, .inl (cy 1, 65536, .inr (.inl mB)))] → va_S A s.heap H locs → lv_has ls 7 [(0, .ref hmo), (1, .int x1), (2, .int x2), (3, .long x3), (5, .int x5)] → fX6_distance_L31 N mC mW mP x1 x2 k n mR mB x3 x5 = some r0 → GX6_distance p l e s m args below meth c D cy A hmo hmW hmP hmS hmE hmI hmO hmT hmK hmF hmH hmM hmD hmR hmB mC mN mW mP r0 H locs (F0 m 31 ls []) := by
  intro n
  induction n with
  | zero => intro mR mB x3 x5 H locs ls hP hD hS hl hf; cases hf
  | succ n ih => exact wX6_distance_B31 E0 N mC mW mP x1 x2 hA _ ih k hk
set_option maxHeartbeats 4000000 in
set_option maxRecDepth 100000 in
theorem wX6_distance_B87 {p : Program} {l : Launch} {e : Env} {s : State} {m : MethodId} {args : Array Value} {below : List Frame} {meth : Method} {c : Code} {D : va_G} {cy : Nat → ClassId} {A : Nat → Prop} {hmo hmW hmP hmS hmE hmI hmO hmT hmK hmF hmH hmM hmD hmR hmB : Nat} {mN : Int32} {r0 : Int32 × (Nat → Int64) × (Nat → Int64)} (E0 : En p m c cX6_distance 7 s args wsX6_distance RX6 meth (some .int) D cy) (N : Nat) (mC : Int32) (mW : Nat → Int32) (mP : Nat → Int64) (x2 : Int32) (x5 : Int32) (hA : ∀ q, s.heap.size ≤ q → A q) (self : (Nat → Int64) → (Nat → Int64) → Int32 → Option (Int32 × (Nat → Int64) × (Nat → Int64))) (hself : ∀ (mR : Nat → Int64) (mB : Nat → Int64) (x6 : Int32) (H : Heap) (locs : List Loc) (ls : Array Slot), va_P D vwCl [(hmo, .inr (5, [.int mC, .ref hmW, .ref hmP, .ref hmS, .ref hmE, .ref hmI, .ref hmO, .ref hmT, .int mN, .ref hmK, .ref hmF, .ref hmH, .ref hmM, .ref hmD, .ref hmR, .ref hmB])), (hmW, .inl (cy 0, 8, .inl mW)), (hmP, .inl (cy 1, 8, .inr (.inl mP))), (hmR, .inl (cy 1, 200, .inr (.inl mR))), (hmB, .inl (cy 1, 65536, .inr (.inl mB)))] H → va_D A [(hmo, .inr (5, [.int mC, .ref hmW, .ref hmP, .ref hmS, .ref hmE, .ref hmI, .ref hmO, .ref hmT, .int mN, .ref hmK, .ref hmF, .ref hmH, .ref hmM, .ref hmD, .ref hmR, .ref hmB])), (hmW, .inl (cy 0, 8, .inl mW)), (hmP, .inl (cy 1, 8, .inr (.inl mP))), (hmR, .inl (cy 1, 200, .inr (.inl mR))), (hmB, .inl (cy 1, 65536, .inr (.inl mB)))] → va_S A s.heap H locs → lv_has ls 7 [(0, .ref hmo), (2, .int x2), (5, .int x5), (6, .int x6)] → self mR mB x6 = some r0 → GX6_distance p l e s m args below meth c D cy A hmo hmW hmP hmS hmE hmI hmO hmT hmK hmF hmH hmM hmD hmR hmB mC mN mW mP r0 H locs (F0 m 87 ls [])) (k : (Nat → Int64) → (Nat → Int64) → Option (Int32 × (Nat → Int64) × (Nat → Int64))) (hk : ∀ (mR : Nat → Int64) (mB : Nat → Int64) (H : Heap) (locs : List Loc) (ls : Array Slot), va_P D vwCl [(hmo, .inr (5, [.int mC, .ref hmW, .ref hmP, .ref hmS, .ref hmE, .ref hmI, .ref hmO, .ref hmT, .int mN, .ref hmK, .ref hmF, .ref hmH, .ref hmM, .ref hmD, .ref hmR, .ref hmB])), (hmW, .inl (cy 0, 8, .inl mW)), (hmP, .inl (cy 1, 8, .inr (.inl mP))), (hmR, .inl (cy 1, 200, .inr (.inl mR))), (hmB, .inl (cy 1, 65536, .inr (.inl mB)))] H → va_D A [(hmo, .inr (5, [.int mC, .ref hmW, .ref hmP, .ref hmS, .ref hmE, .ref hmI, .ref hmO, .ref hmT, .int mN, .ref hmK, .ref hmF, .ref hmH, .ref hmM, .ref hmD, .ref hmR, .ref hmB])), (hmW, .inl (cy 0, 8, .inl mW)), (hmP, .inl (cy 1, 8, .inr (.inl mP))), (hmR, .inl (cy 1, 200, .inr (.inl mR))), (hmB, .inl (cy 1, 65536, .inr (.inl mB)))] → va_S A s.heap H locs → lv_has ls 7 [(0, .ref hmo), (2, .int x2), (5, .int x5)] → k mR mB = some r0 → GX6_distance p l e s m args below meth c D cy A hmo hmW hmP hmS hmE hmI hmO hmT hmK hmF hmH hmM hmD hmR hmB mC mN mW mP r0 H locs (F0 m 125 ls [])) : ∀ (mR : Nat → Int64) (mB : Nat → Int64) (x6 : Int32) (H : Heap) (locs : List Loc) (ls : Array Slot), va_P D vwCl [(hmo, .inr (5, [.int mC, .ref hmW, .ref hmP, .ref hmS, .ref hmE, .ref hmI, .ref hmO, .ref hmT, .int mN, .ref hmK, .ref hmF, .ref hmH, .ref hmM, .ref hmD, .ref hmR, .ref hmB])), (hmW, .inl (cy 0, 8, .inl mW)), (hmP, .inl (cy 1, 8, .inr (.inl mP))), (hmR, .inl (cy 1, 200, .inr (.inl mR))), (hmB, .inl (cy 1, 65536, .inr (.inl mB)))] H → va_D A [(hmo, .inr (5, [.int mC, .ref hmW, .ref hmP, .ref hmS, .ref hmE, .ref hmI, .ref hmO, .ref hmT, .int mN, .ref hmK, .ref hmF, .ref hmH, .ref hmM, .ref hmD, .ref hmR, .ref hmB])), (hmW, .inl (cy 0, 8, .inl mW)), (hmP, .inl (cy 1, 8, .inr (.inl mP))), (hmR, .inl (cy 1, 200, .inr (.inl mR))), (hmB, .inl (cy 1, 65536, .inr (.inl mB)))] → va_S A s.heap H locs → lv_has ls 7 [(0, .ref hmo), (2, .int x2), (5, .int x5), (6, .int x6)] → fX6_distance_B87 N mC mW mP x2 x5 self k mR mB x6 = some r0 → GX6_distance p l e s m args below meth c D cy A hmo hmW hmP hmS hmE hmI hmO hmT hmK hmF hmH hmM hmD hmR hmB mC mN mW mP r0 H locs (F0 m 87 ls []) := by
  obtain ⟨⟨hx, hb, hml, hown, hts⟩, hr, hlocks, hB⟩ := id E0
  have hK := hB.1
  have hN := hB.2
  intro mR mB x6 H locs ls hP hD hS hl hf
  unfold fX6_distance_B87 at hf
  refine lv_iload hx hb dX6_distance_87 (lv_at hl 3 rfl) ?_
  refine lv_iload hx hb dX6_distance_89 (lv_at hl 2 rfl) ?_
  refine lv_icmp_ge (tgt := 125) hx hb dX6_distance_91 (by decide) (fun c_27 => ?_) (fun c_27 => ?_)
  · have hf := ite_t hf c_27
    exact hk _ _ _ _ _ hP hD hS (lv_sub hl [0, 1, 2] rfl) hf
  · have hf := ite_f hf c_27
    refine lv_aload_n hx hb dX6_distance_94 rfl (lv_at hl 0 rfl) ?_
    refine lv_aload_n hx hb dX6_distance_95 rfl (lv_at hl 0 rfl) ?_
    refine va_get (D := D) (ci := 5) (v := .ref hmR) (C := RX6) (T := TX6) (N := 16) hx hb hts inX6_distance_X6 hown hK hP 0 rfl rfl 14 (by decide) (hts _ mX6_distance_0) (fun _ h9 => h9) rfl dX6_distance_96 ?_
    refine lv_iload hx hb dX6_distance_99 (lv_at hl 2 rfl) ?_
    obtain ⟨b_28, hf⟩ := ite_n hf
    refine va_lald hx hb hK hP 3 1 rfl rfl b_28 dX6_distance_101 ?_
    refine lv_aload_n hx hb dX6_distance_102 rfl (lv_at hl 0 rfl) ?_
    refine va_get (D := D) (ci := 5) (v := .ref hmR) (C := RX6) (T := TX6) (N := 16) hx hb hts inX6_distance_X6 hown hK hP 0 rfl rfl 14 (by decide) (hts _ mX6_distance_0) (fun _ h9 => h9) rfl dX6_distance_103 ?_
    refine lv_iload hx hb dX6_distance_106 (lv_at hl 3 rfl) ?_
    obtain ⟨b_29, hf⟩ := ite_n hf
    refine va_lald hx hb hK hP 3 1 rfl rfl b_29 dX6_distance_108 ?_
    refine lv_lxor hx hb dX6_distance_109 ?_
    refine lv_iconst (v := (0 : Int32)) hx hb dX6_distance_110 (by decide) ?_
    obtain ⟨r_30, h_31, hf⟩ := bind_some hf
    have hP_r_30 : va_P D vwCl [(hmo, .inr (5, [.int mC, .ref hmW, .ref hmP, .ref hmS, .ref hmE, .ref hmI, .ref hmO, .ref hmT, .int mN, .ref hmK, .ref hmF, .ref hmH, .ref hmM, .ref hmD, .ref hmR, .ref hmB])), (hmB, .inl (cy 1, 65536, .inr (.inl mB)))] H := hP.sub [0, 4] rfl
    have hD_r_30 : va_D A [(hmo, .inr (5, [.int mC, .ref hmW, .ref hmP, .ref hmS, .ref hmE, .ref hmI, .ref hmO, .ref hmT, .int mN, .ref hmK, .ref hmF, .ref hmH, .ref hmM, .ref hmD, .ref hmR, .ref hmB])), (hmB, .inl (cy 1, 65536, .inr (.inl mB)))] := hD.sub [0, 4] (by decide) rfl
    refine cj_i (wc := [(hmo, .inr (5, [.int mC, .ref hmW, .ref hmP, .ref hmS, .ref hmE, .ref hmI, .ref hmO, .ref hmT, .int mN, .ref hmK, .ref hmF, .ref hmH, .ref hmM, .ref hmD, .ref hmR, .ref hmB])), (hmB, .inl (cy 1, 65536, .inr (.inl mB)))]) (wr := [(hmW, .inl (cy 0, 8, .inl mW)), (hmP, .inl (cy 1, 8, .inr (.inl mP))), (hmR, .inl (cy 1, 200, .inr (.inl mR)))]) (w1 := [(hmo, .inr (5, [.int mC, .ref hmW, .ref hmP, .ref hmS, .ref hmE, .ref hmI, .ref hmO, .ref hmT, .int mN, .ref hmK, .ref hmF, .ref hmH, .ref hmM, .ref hmD, .ref hmR, .ref hmB])), (hmB, .inl (cy 1, 65536, .inr (.inl r_30.2)))]) [0, 4] [1, 2, 3] (va_runV (As := [.long ((mR x5.toNatClampNeg) ^^^ (mR x6.toNatClampNeg)), .int (0 : Int32)]) (rest := []) ⟨hx, hb, hml, hown, hts⟩ (ctX6_had l D cy N hmo hmW hmP hmS hmE hmI hmO hmT hmK hmF hmH hmM hmD hmR hmB H.size mC mN mB ((mR x5.toNatClampNeg) ^^^ (mR x6.toNatClampNeg)) (0 : Int32) r_30 h_31) (cwV 2 hts gX6_distance_X6_had rfl rfl rfl (by decide +kernel) ⟨Nat.le_of_ble_eq_true rfl, Nat.le_of_ble_eq_true rfl⟩) (preV_wr (ci := 5) (q0 := 0) [.long ((mR x5.toNatClampNeg) ^^^ (mR x6.toNatClampNeg)), .int (0 : Int32)] hP_r_30 hD_r_30 hB rfl rfl) rfl rfl hl.1 rfl (lv_room (Nat.le_of_ble_eq_true rfl)) dX6_distance_111 ⟨Nat.zero_le _, Nat.zero_le _⟩) hP hD hS hA rfl rfl (by decide) (by decide) (fun H32 locs33 hP hD hS => ?_)
    have hP : va_P D vwCl [(hmo, .inr (5, [.int mC, .ref hmW, .ref hmP, .ref hmS, .ref hmE, .ref hmI, .ref hmO, .ref hmT, .int mN, .ref hmK, .ref hmF, .ref hmH, .ref hmM, .ref hmD, .ref hmR, .ref hmB])), (hmW, .inl (cy 0, 8, .inl mW)), (hmP, .inl (cy 1, 8, .inr (.inl mP))), (hmR, .inl (cy 1, 200, .inr (.inl mR))), (hmB, .inl (cy 1, 65536, .inr (.inl r_30.2)))] H32 := hP.sub [3, 0, 1, 2, 4] rfl
    have hD : va_D A [(hmo, .inr (5, [.int mC, .ref hmW, .ref hmP, .ref hmS, .ref hmE, .ref hmI, .ref hmO, .ref hmT, .int mN, .ref hmK, .ref hmF, .ref hmH, .ref hmM, .ref hmD, .ref hmR, .ref hmB])), (hmW, .inl (cy 0, 8, .inl mW)), (hmP, .inl (cy 1, 8, .inr (.inl mP))), (hmR, .inl (cy 1, 200, .inr (.inl mR))), (hmB, .inl (cy 1, 65536, .inr (.inl r_30.2)))] := hD.sub [3, 0, 1, 2, 4] (by decide) rfl
    refine lv_if_eq (tgt := 119) hx hb dX6_distance_114 (by decide) (fun c_34 => ?_) (fun c_34 => ?_)
    · have hf := ite_t hf c_34
      refine lv_iinc (v := (x6 + (1 : Int32))) (lv' := [(6, .int (x6 + (1 : Int32))), (0, .ref hmo), (2, .int x2), (5, .int x5)]) hx hb dX6_distance_119 hl (k := 3) rfl rfl (by decide) rfl (fun ls hl => ?_)
      refine lv_goto (tgt := 87) hx hb dX6_distance_122 (by decide) ?_
      exact hself _ _ _ _ _ _ hP hD hS (lv_sub hl [1, 2, 3, 0] rfl) hf
    · have hf := ite_f hf c_34
      refine lv_iconst (v := (3 : Int32)) hx hb dX6_distance_117 (by decide) ?_
      cases hf
      exact W.iret (v := (3 : Int32)) hx hb hr (fun t ht hW => ⟨⟨_, (), rfl, rfl, by rw [ht]; exact hP, hD⟩, hS.F ht⟩) hS.2.2 dX6_distance_118
theorem wX6_distance_L87 {p : Program} {l : Launch} {e : Env} {s : State} {m : MethodId} {args : Array Value} {below : List Frame} {meth : Method} {c : Code} {D : va_G} {cy : Nat → ClassId} {A : Nat → Prop} {hmo hmW hmP hmS hmE hmI hmO hmT hmK hmF hmH hmM hmD hmR hmB : Nat} {mN : Int32} {r0 : Int32 × (Nat → Int64) × (Nat → Int64)} (E0 : En p m c cX6_distance 7 s args wsX6_distance RX6 meth (some .int) D cy) (N : Nat) (mC : Int32) (mW : Nat → Int32) (mP : Nat → Int64) (x2 : Int32) (x5 : Int32) (hA : ∀ q, s.heap.size ≤ q → A q) (k : (Nat → Int64) → (Nat → Int64) → Option (Int32 × (Nat → Int64) × (Nat → Int64))) (hk : ∀ (mR : Nat → Int64) (mB : Nat → Int64) (H : Heap) (locs : List Loc) (ls : Array Slot), va_P D vwCl [(hmo, .inr (5, [.int mC, .ref hmW, .ref hmP, .ref hmS, .ref hmE, .ref hmI, .ref hmO, .ref hmT, .int mN, .ref hmK, .ref hmF, .ref hmH, .ref hmM, .ref hmD, .ref hmR, .ref hmB])), (hmW, .inl (cy 0, 8, .inl mW)), (hmP, .inl (cy 1, 8, .inr (.inl mP))), (hmR, .inl (cy 1, 200, .inr (.inl mR))), (hmB, .inl (cy 1, 65536, .inr (.inl mB)))] H → va_D A [(hmo, .inr (5, [.int mC, .ref hmW, .ref hmP, .ref hmS, .ref hmE, .ref hmI, .ref hmO, .ref hmT, .int mN, .ref hmK, .ref hmF, .ref hmH, .ref hmM, .ref hmD, .ref hmR, .ref hmB])), (hmW, .inl (cy 0, 8, .inl mW)), (hmP, .inl (cy 1, 8, .inr (.inl mP))), (hmR, .inl (cy 1, 200, .inr (.inl mR))), (hmB, .inl (cy 1, 65536, .inr (.inl mB)))] → va_S A s.heap H locs → lv_has ls 7 [(0, .ref hmo), (2, .int x2), (5, .int x5)] → k mR mB = some r0 → GX6_distance p l e s m args below meth c D cy A hmo hmW hmP hmS hmE hmI hmO hmT hmK hmF hmH hmM hmD hmR hmB mC mN mW mP r0 H locs (F0 m 125 ls [])) : ∀ (n : Nat), ∀ (mR : Nat → Int64) (mB : Nat → Int64) (x6 : Int32) (H : Heap) (locs : List Loc) (ls : Array Slot), va_P D vwCl [(hmo, .inr (5, [.int mC, .ref hmW, .ref hmP, .ref hmS, .ref hmE, .ref hmI, .ref hmO, .ref hmT, .int mN, .ref hmK, .ref hmF, .ref hmH, .ref hmM, .ref hmD, .ref hmR, .ref hmB])), (hmW, .inl (cy 0, 8, .inl mW)), (hmP, .inl (cy 1, 8, .inr (.inl mP))), (hmR, .inl (cy 1, 200, .inr (.inl mR))), (hmB, .inl (cy 1, 65536, .inr (.inl mB)))] H → va_D A [(hmo, .inr (5, [.int mC, .ref hmW, .ref hmP, .ref hmS, .ref hmE, .ref hmI, .ref hmO, .ref hmT, .int mN, .ref hmK, .ref hmF, .ref hmH, .ref hmM, .ref hmD, .ref hmR, .ref hmB])), (hmW, .inl (cy 0, 8, .inl mW)), (hmP, .inl (cy 1, 8, .inr (.inl mP))), (hmR, .inl (cy 1, 200, .inr (.inl mR))), (hmB, .inl (cy 1, 65536, .inr (.inl mB)))] → va_S A s.heap H locs → lv_has ls 7 [(0, .ref hmo), (2, .int x2), (5, .int x5), (6, .int x6)] → fX6_distance_L87 N mC mW mP x2 x5 k n mR mB x6 = some r0 → GX6_distance p l e s m args below meth c D cy A hmo hmW hmP hmS hmE hmI hmO hmT hmK hmF hmH hmM hmD hmR hmB mC mN mW mP r0 H locs (F0 m 87 ls []) := by
  intro n
  induction n with
  | zero => intro mR mB x6 H locs ls hP hD hS hl hf; cases hf
  | succ n ih => exact wX6_distance_B87 E0 N mC mW mP x2 x5 hA _ ih k hk
set_option maxHeartbeats 4000000 in
set_option maxRecDepth 100000 in
theorem wX6_distance_B78 {p : Program} {l : Launch} {e : Env} {s : State} {m : MethodId} {args : Array Value} {below : List Frame} {meth : Method} {c : Code} {D : va_G} {cy : Nat → ClassId} {A : Nat → Prop} {hmo hmW hmP hmS hmE hmI hmO hmT hmK hmF hmH hmM hmD hmR hmB : Nat} {mN : Int32} {r0 : Int32 × (Nat → Int64) × (Nat → Int64)} (E0 : En p m c cX6_distance 7 s args wsX6_distance RX6 meth (some .int) D cy) (N : Nat) (mC : Int32) (mW : Nat → Int32) (mP : Nat → Int64) (x2 : Int32) (hA : ∀ q, s.heap.size ≤ q → A q) (self : (Nat → Int64) → (Nat → Int64) → Int32 → Option (Int32 × (Nat → Int64) × (Nat → Int64))) (hself : ∀ (mR : Nat → Int64) (mB : Nat → Int64) (x5 : Int32) (H : Heap) (locs : List Loc) (ls : Array Slot), va_P D vwCl [(hmo, .inr (5, [.int mC, .ref hmW, .ref hmP, .ref hmS, .ref hmE, .ref hmI, .ref hmO, .ref hmT, .int mN, .ref hmK, .ref hmF, .ref hmH, .ref hmM, .ref hmD, .ref hmR, .ref hmB])), (hmW, .inl (cy 0, 8, .inl mW)), (hmP, .inl (cy 1, 8, .inr (.inl mP))), (hmR, .inl (cy 1, 200, .inr (.inl mR))), (hmB, .inl (cy 1, 65536, .inr (.inl mB)))] H → va_D A [(hmo, .inr (5, [.int mC, .ref hmW, .ref hmP, .ref hmS, .ref hmE, .ref hmI, .ref hmO, .ref hmT, .int mN, .ref hmK, .ref hmF, .ref hmH, .ref hmM, .ref hmD, .ref hmR, .ref hmB])), (hmW, .inl (cy 0, 8, .inl mW)), (hmP, .inl (cy 1, 8, .inr (.inl mP))), (hmR, .inl (cy 1, 200, .inr (.inl mR))), (hmB, .inl (cy 1, 65536, .inr (.inl mB)))] → va_S A s.heap H locs → lv_has ls 7 [(0, .ref hmo), (2, .int x2), (5, .int x5)] → self mR mB x5 = some r0 → GX6_distance p l e s m args below meth c D cy A hmo hmW hmP hmS hmE hmI hmO hmT hmK hmF hmH hmM hmD hmR hmB mC mN mW mP r0 H locs (F0 m 78 ls [])) (k : (Nat → Int64) → (Nat → Int64) → Option (Int32 × (Nat → Int64) × (Nat → Int64))) (hk : ∀ (mR : Nat → Int64) (mB : Nat → Int64) (H : Heap) (locs : List Loc) (ls : Array Slot), va_P D vwCl [(hmo, .inr (5, [.int mC, .ref hmW, .ref hmP, .ref hmS, .ref hmE, .ref hmI, .ref hmO, .ref hmT, .int mN, .ref hmK, .ref hmF, .ref hmH, .ref hmM, .ref hmD, .ref hmR, .ref hmB])), (hmW, .inl (cy 0, 8, .inl mW)), (hmP, .inl (cy 1, 8, .inr (.inl mP))), (hmR, .inl (cy 1, 200, .inr (.inl mR))), (hmB, .inl (cy 1, 65536, .inr (.inl mB)))] H → va_D A [(hmo, .inr (5, [.int mC, .ref hmW, .ref hmP, .ref hmS, .ref hmE, .ref hmI, .ref hmO, .ref hmT, .int mN, .ref hmK, .ref hmF, .ref hmH, .ref hmM, .ref hmD, .ref hmR, .ref hmB])), (hmW, .inl (cy 0, 8, .inl mW)), (hmP, .inl (cy 1, 8, .inr (.inl mP))), (hmR, .inl (cy 1, 200, .inr (.inl mR))), (hmB, .inl (cy 1, 65536, .inr (.inl mB)))] → va_S A s.heap H locs → lv_has ls 7 [(0, .ref hmo), (2, .int x2)] → k mR mB = some r0 → GX6_distance p l e s m args below meth c D cy A hmo hmW hmP hmS hmE hmI hmO hmT hmK hmF hmH hmM hmD hmR hmB mC mN mW mP r0 H locs (F0 m 131 ls [])) : ∀ (mR : Nat → Int64) (mB : Nat → Int64) (x5 : Int32) (H : Heap) (locs : List Loc) (ls : Array Slot), va_P D vwCl [(hmo, .inr (5, [.int mC, .ref hmW, .ref hmP, .ref hmS, .ref hmE, .ref hmI, .ref hmO, .ref hmT, .int mN, .ref hmK, .ref hmF, .ref hmH, .ref hmM, .ref hmD, .ref hmR, .ref hmB])), (hmW, .inl (cy 0, 8, .inl mW)), (hmP, .inl (cy 1, 8, .inr (.inl mP))), (hmR, .inl (cy 1, 200, .inr (.inl mR))), (hmB, .inl (cy 1, 65536, .inr (.inl mB)))] H → va_D A [(hmo, .inr (5, [.int mC, .ref hmW, .ref hmP, .ref hmS, .ref hmE, .ref hmI, .ref hmO, .ref hmT, .int mN, .ref hmK, .ref hmF, .ref hmH, .ref hmM, .ref hmD, .ref hmR, .ref hmB])), (hmW, .inl (cy 0, 8, .inl mW)), (hmP, .inl (cy 1, 8, .inr (.inl mP))), (hmR, .inl (cy 1, 200, .inr (.inl mR))), (hmB, .inl (cy 1, 65536, .inr (.inl mB)))] → va_S A s.heap H locs → lv_has ls 7 [(0, .ref hmo), (2, .int x2), (5, .int x5)] → fX6_distance_B78 N mC mW mP x2 self k mR mB x5 = some r0 → GX6_distance p l e s m args below meth c D cy A hmo hmW hmP hmS hmE hmI hmO hmT hmK hmF hmH hmM hmD hmR hmB mC mN mW mP r0 H locs (F0 m 78 ls []) := by
  obtain ⟨⟨hx, hb, hml, hown, hts⟩, hr, hlocks, hB⟩ := id E0
  have hK := hB.1
  have hN := hB.2
  intro mR mB x5 H locs ls hP hD hS hl hf
  unfold fX6_distance_B78 at hf
  refine lv_iload hx hb dX6_distance_78 (lv_at hl 2 rfl) ?_
  refine lv_iload_n hx hb dX6_distance_80 rfl (lv_at hl 1 rfl) ?_
  refine lv_icmp_ge (tgt := 131) hx hb dX6_distance_81 (by decide) (fun c_26 => ?_) (fun c_26 => ?_)
  · have hf := ite_t hf c_26
    exact hk _ _ _ _ _ hP hD hS (lv_sub hl [0, 1] rfl) hf
  · have hf := ite_f hf c_26
    refine lv_iconst (v := (0 : Int32)) hx hb dX6_distance_84 (by decide) ?_
    refine lv_istore (lv' := [(6, .int (0 : Int32)), (0, .ref hmo), (2, .int x2), (5, .int x5)]) hx hb dX6_distance_85 hl (by decide) rfl (fun ls hl => ?_)
    refine wX6_distance_L87 E0 N mC mW mP x2 x5 hA _ (fun mR_35 mB_36 H37 locs38 ls hP hD hS hl hf => ?_) N _ _ _ _ _ _ hP hD hS (lv_sub hl [1, 2, 3, 0] rfl) hf
    refine lv_iinc (v := (x5 + (1 : Int32))) (lv' := [(5, .int (x5 + (1 : Int32))), (0, .ref hmo), (2, .int x2)]) hx hb dX6_distance_125 hl (k := 2) rfl rfl (by decide) rfl (fun ls hl => ?_)
    refine lv_goto (tgt := 78) hx hb dX6_distance_128 (by decide) ?_
    exact hself _ _ _ _ _ _ hP hD hS (lv_sub hl [1, 2, 0] rfl) hf
theorem wX6_distance_L78 {p : Program} {l : Launch} {e : Env} {s : State} {m : MethodId} {args : Array Value} {below : List Frame} {meth : Method} {c : Code} {D : va_G} {cy : Nat → ClassId} {A : Nat → Prop} {hmo hmW hmP hmS hmE hmI hmO hmT hmK hmF hmH hmM hmD hmR hmB : Nat} {mN : Int32} {r0 : Int32 × (Nat → Int64) × (Nat → Int64)} (E0 : En p m c cX6_distance 7 s args wsX6_distance RX6 meth (some .int) D cy) (N : Nat) (mC : Int32) (mW : Nat → Int32) (mP : Nat → Int64) (x2 : Int32) (hA : ∀ q, s.heap.size ≤ q → A q) (k : (Nat → Int64) → (Nat → Int64) → Option (Int32 × (Nat → Int64) × (Nat → Int64))) (hk : ∀ (mR : Nat → Int64) (mB : Nat → Int64) (H : Heap) (locs : List Loc) (ls : Array Slot), va_P D vwCl [(hmo, .inr (5, [.int mC, .ref hmW, .ref hmP, .ref hmS, .ref hmE, .ref hmI, .ref hmO, .ref hmT, .int mN, .ref hmK, .ref hmF, .ref hmH, .ref hmM, .ref hmD, .ref hmR, .ref hmB])), (hmW, .inl (cy 0, 8, .inl mW)), (hmP, .inl (cy 1, 8, .inr (.inl mP))), (hmR, .inl (cy 1, 200, .inr (.inl mR))), (hmB, .inl (cy 1, 65536, .inr (.inl mB)))] H → va_D A [(hmo, .inr (5, [.int mC, .ref hmW, .ref hmP, .ref hmS, .ref hmE, .ref hmI, .ref hmO, .ref hmT, .int mN, .ref hmK, .ref hmF, .ref hmH, .ref hmM, .ref hmD, .ref hmR, .ref hmB])), (hmW, .inl (cy 0, 8, .inl mW)), (hmP, .inl (cy 1, 8, .inr (.inl mP))), (hmR, .inl (cy 1, 200, .inr (.inl mR))), (hmB, .inl (cy 1, 65536, .inr (.inl mB)))] → va_S A s.heap H locs → lv_has ls 7 [(0, .ref hmo), (2, .int x2)] → k mR mB = some r0 → GX6_distance p l e s m args below meth c D cy A hmo hmW hmP hmS hmE hmI hmO hmT hmK hmF hmH hmM hmD hmR hmB mC mN mW mP r0 H locs (F0 m 131 ls [])) : ∀ (n : Nat), ∀ (mR : Nat → Int64) (mB : Nat → Int64) (x5 : Int32) (H : Heap) (locs : List Loc) (ls : Array Slot), va_P D vwCl [(hmo, .inr (5, [.int mC, .ref hmW, .ref hmP, .ref hmS, .ref hmE, .ref hmI, .ref hmO, .ref hmT, .int mN, .ref hmK, .ref hmF, .ref hmH, .ref hmM, .ref hmD, .ref hmR, .ref hmB])), (hmW, .inl (cy 0, 8, .inl mW)), (hmP, .inl (cy 1, 8, .inr (.inl mP))), (hmR, .inl (cy 1, 200, .inr (.inl mR))), (hmB, .inl (cy 1, 65536, .inr (.inl mB)))] H → va_D A [(hmo, .inr (5, [.int mC, .ref hmW, .ref hmP, .ref hmS, .ref hmE, .ref hmI, .ref hmO, .ref hmT, .int mN, .ref hmK, .ref hmF, .ref hmH, .ref hmM, .ref hmD, .ref hmR, .ref hmB])), (hmW, .inl (cy 0, 8, .inl mW)), (hmP, .inl (cy 1, 8, .inr (.inl mP))), (hmR, .inl (cy 1, 200, .inr (.inl mR))), (hmB, .inl (cy 1, 65536, .inr (.inl mB)))] → va_S A s.heap H locs → lv_has ls 7 [(0, .ref hmo), (2, .int x2), (5, .int x5)] → fX6_distance_L78 N mC mW mP x2 k n mR mB x5 = some r0 → GX6_distance p l e s m args below meth c D cy A hmo hmW hmP hmS hmE hmI hmO hmT hmK hmF hmH hmM hmD hmR hmB mC mN mW mP r0 H locs (F0 m 78 ls []) := by
  intro n
  induction n with
  | zero => intro mR mB x5 H locs ls hP hD hS hl hf; cases hf
  | succ n ih => exact wX6_distance_B78 E0 N mC mW mP x2 hA _ ih k hk
set_option maxHeartbeats 4000000 in
set_option maxRecDepth 100000 in
theorem wX6_distance_B147 {p : Program} {l : Launch} {e : Env} {s : State} {m : MethodId} {args : Array Value} {below : List Frame} {meth : Method} {c : Code} {D : va_G} {cy : Nat → ClassId} {A : Nat → Prop} {hmo hmW hmP hmS hmE hmI hmO hmT hmK hmF hmH hmM hmD hmR hmB : Nat} {mN : Int32} {r0 : Int32 × (Nat → Int64) × (Nat → Int64)} (E0 : En p m c cX6_distance 7 s args wsX6_distance RX6 meth (some .int) D cy) (N : Nat) (mC : Int32) (mW : Nat → Int32) (mP : Nat → Int64) (x2 : Int32) (x5 : Int32) (hA : ∀ q, s.heap.size ≤ q → A q) (self : (Nat → Int64) → (Nat → Int64) → Int32 → Option (Int32 × (Nat → Int64) × (Nat → Int64))) (hself : ∀ (mR : Nat → Int64) (mB : Nat → Int64) (x6 : Int32) (H : Heap) (locs : List Loc) (ls : Array Slot), va_P D vwCl [(hmo, .inr (5, [.int mC, .ref hmW, .ref hmP, .ref hmS, .ref hmE, .ref hmI, .ref hmO, .ref hmT, .int mN, .ref hmK, .ref hmF, .ref hmH, .ref hmM, .ref hmD, .ref hmR, .ref hmB])), (hmW, .inl (cy 0, 8, .inl mW)), (hmP, .inl (cy 1, 8, .inr (.inl mP))), (hmR, .inl (cy 1, 200, .inr (.inl mR))), (hmB, .inl (cy 1, 65536, .inr (.inl mB)))] H → va_D A [(hmo, .inr (5, [.int mC, .ref hmW, .ref hmP, .ref hmS, .ref hmE, .ref hmI, .ref hmO, .ref hmT, .int mN, .ref hmK, .ref hmF, .ref hmH, .ref hmM, .ref hmD, .ref hmR, .ref hmB])), (hmW, .inl (cy 0, 8, .inl mW)), (hmP, .inl (cy 1, 8, .inr (.inl mP))), (hmR, .inl (cy 1, 200, .inr (.inl mR))), (hmB, .inl (cy 1, 65536, .inr (.inl mB)))] → va_S A s.heap H locs → lv_has ls 7 [(0, .ref hmo), (2, .int x2), (5, .int x5), (6, .int x6)] → self mR mB x6 = some r0 → GX6_distance p l e s m args below meth c D cy A hmo hmW hmP hmS hmE hmI hmO hmT hmK hmF hmH hmM hmD hmR hmB mC mN mW mP r0 H locs (F0 m 147 ls [])) (k : (Nat → Int64) → (Nat → Int64) → Option (Int32 × (Nat → Int64) × (Nat → Int64))) (hk : ∀ (mR : Nat → Int64) (mB : Nat → Int64) (H : Heap) (locs : List Loc) (ls : Array Slot), va_P D vwCl [(hmo, .inr (5, [.int mC, .ref hmW, .ref hmP, .ref hmS, .ref hmE, .ref hmI, .ref hmO, .ref hmT, .int mN, .ref hmK, .ref hmF, .ref hmH, .ref hmM, .ref hmD, .ref hmR, .ref hmB])), (hmW, .inl (cy 0, 8, .inl mW)), (hmP, .inl (cy 1, 8, .inr (.inl mP))), (hmR, .inl (cy 1, 200, .inr (.inl mR))), (hmB, .inl (cy 1, 65536, .inr (.inl mB)))] H → va_D A [(hmo, .inr (5, [.int mC, .ref hmW, .ref hmP, .ref hmS, .ref hmE, .ref hmI, .ref hmO, .ref hmT, .int mN, .ref hmK, .ref hmF, .ref hmH, .ref hmM, .ref hmD, .ref hmR, .ref hmB])), (hmW, .inl (cy 0, 8, .inl mW)), (hmP, .inl (cy 1, 8, .inr (.inl mP))), (hmR, .inl (cy 1, 200, .inr (.inl mR))), (hmB, .inl (cy 1, 65536, .inr (.inl mB)))] → va_S A s.heap H locs → lv_has ls 7 [(0, .ref hmo), (2, .int x2), (5, .int x5)] → k mR mB = some r0 → GX6_distance p l e s m args below meth c D cy A hmo hmW hmP hmS hmE hmI hmO hmT hmK hmF hmH hmM hmD hmR hmB mC mN mW mP r0 H locs (F0 m 185 ls [])) : ∀ (mR : Nat → Int64) (mB : Nat → Int64) (x6 : Int32) (H : Heap) (locs : List Loc) (ls : Array Slot), va_P D vwCl [(hmo, .inr (5, [.int mC, .ref hmW, .ref hmP, .ref hmS, .ref hmE, .ref hmI, .ref hmO, .ref hmT, .int mN, .ref hmK, .ref hmF, .ref hmH, .ref hmM, .ref hmD, .ref hmR, .ref hmB])), (hmW, .inl (cy 0, 8, .inl mW)), (hmP, .inl (cy 1, 8, .inr (.inl mP))), (hmR, .inl (cy 1, 200, .inr (.inl mR))), (hmB, .inl (cy 1, 65536, .inr (.inl mB)))] H → va_D A [(hmo, .inr (5, [.int mC, .ref hmW, .ref hmP, .ref hmS, .ref hmE, .ref hmI, .ref hmO, .ref hmT, .int mN, .ref hmK, .ref hmF, .ref hmH, .ref hmM, .ref hmD, .ref hmR, .ref hmB])), (hmW, .inl (cy 0, 8, .inl mW)), (hmP, .inl (cy 1, 8, .inr (.inl mP))), (hmR, .inl (cy 1, 200, .inr (.inl mR))), (hmB, .inl (cy 1, 65536, .inr (.inl mB)))] → va_S A s.heap H locs → lv_has ls 7 [(0, .ref hmo), (2, .int x2), (5, .int x5), (6, .int x6)] → fX6_distance_B147 N mC mW mP x2 x5 self k mR mB x6 = some r0 → GX6_distance p l e s m args below meth c D cy A hmo hmW hmP hmS hmE hmI hmO hmT hmK hmF hmH hmM hmD hmR hmB mC mN mW mP r0 H locs (F0 m 147 ls []) := by
  obtain ⟨⟨hx, hb, hml, hown, hts⟩, hr, hlocks, hB⟩ := id E0
  have hK := hB.1
  have hN := hB.2
  intro mR mB x6 H locs ls hP hD hS hl hf
  unfold fX6_distance_B147 at hf
  refine lv_iload hx hb dX6_distance_147 (lv_at hl 3 rfl) ?_
  refine lv_iload hx hb dX6_distance_149 (lv_at hl 2 rfl) ?_
  refine lv_icmp_ge (tgt := 185) hx hb dX6_distance_151 (by decide) (fun c_48 => ?_) (fun c_48 => ?_)
  · have hf := ite_t hf c_48
    exact hk _ _ _ _ _ hP hD hS (lv_sub hl [0, 1, 2] rfl) hf
  · have hf := ite_f hf c_48
    refine lv_aload_n hx hb dX6_distance_154 rfl (lv_at hl 0 rfl) ?_
    refine lv_aload_n hx hb dX6_distance_155 rfl (lv_at hl 0 rfl) ?_
    refine va_get (D := D) (ci := 5) (v := .ref hmR) (C := RX6) (T := TX6) (N := 16) hx hb hts inX6_distance_X6 hown hK hP 0 rfl rfl 14 (by decide) (hts _ mX6_distance_0) (fun _ h9 => h9) rfl dX6_distance_156 ?_
    refine lv_iload hx hb dX6_distance_159 (lv_at hl 2 rfl) ?_
    obtain ⟨b_49, hf⟩ := ite_n hf
    refine va_lald hx hb hK hP 3 1 rfl rfl b_49 dX6_distance_161 ?_
    refine lv_aload_n hx hb dX6_distance_162 rfl (lv_at hl 0 rfl) ?_
    refine va_get (D := D) (ci := 5) (v := .ref hmR) (C := RX6) (T := TX6) (N := 16) hx hb hts inX6_distance_X6 hown hK hP 0 rfl rfl 14 (by decide) (hts _ mX6_distance_0) (fun _ h9 => h9) rfl dX6_distance_163 ?_
    refine lv_iload hx hb dX6_distance_166 (lv_at hl 3 rfl) ?_
    obtain ⟨b_50, hf⟩ := ite_n hf
    refine va_lald hx hb hK hP 3 1 rfl rfl b_50 dX6_distance_168 ?_
    refine lv_lxor hx hb dX6_distance_169 ?_
    refine lv_iconst (v := (1 : Int32)) hx hb dX6_distance_170 (by decide) ?_
    obtain ⟨r_51, h_52, hf⟩ := bind_some hf
    have hP_r_51 : va_P D vwCl [(hmo, .inr (5, [.int mC, .ref hmW, .ref hmP, .ref hmS, .ref hmE, .ref hmI, .ref hmO, .ref hmT, .int mN, .ref hmK, .ref hmF, .ref hmH, .ref hmM, .ref hmD, .ref hmR, .ref hmB])), (hmB, .inl (cy 1, 65536, .inr (.inl mB)))] H := hP.sub [0, 4] rfl
    have hD_r_51 : va_D A [(hmo, .inr (5, [.int mC, .ref hmW, .ref hmP, .ref hmS, .ref hmE, .ref hmI, .ref hmO, .ref hmT, .int mN, .ref hmK, .ref hmF, .ref hmH, .ref hmM, .ref hmD, .ref hmR, .ref hmB])), (hmB, .inl (cy 1, 65536, .inr (.inl mB)))] := hD.sub [0, 4] (by decide) rfl
    refine cj_i (wc := [(hmo, .inr (5, [.int mC, .ref hmW, .ref hmP, .ref hmS, .ref hmE, .ref hmI, .ref hmO, .ref hmT, .int mN, .ref hmK, .ref hmF, .ref hmH, .ref hmM, .ref hmD, .ref hmR, .ref hmB])), (hmB, .inl (cy 1, 65536, .inr (.inl mB)))]) (wr := [(hmW, .inl (cy 0, 8, .inl mW)), (hmP, .inl (cy 1, 8, .inr (.inl mP))), (hmR, .inl (cy 1, 200, .inr (.inl mR)))]) (w1 := [(hmo, .inr (5, [.int mC, .ref hmW, .ref hmP, .ref hmS, .ref hmE, .ref hmI, .ref hmO, .ref hmT, .int mN, .ref hmK, .ref hmF, .ref hmH, .ref hmM, .ref hmD, .ref hmR, .ref hmB])), (hmB, .inl (cy 1, 65536, .inr (.inl r_51.2)))]) [0, 4] [1, 2, 3] (va_runV (As := [.long ((mR x5.toNatClampNeg) ^^^ (mR x6.toNatClampNeg)), .int (1 : Int32)]) (rest := []) ⟨hx, hb, hml, hown, hts⟩ (ctX6_had l D cy N hmo hmW hmP hmS hmE hmI hmO hmT hmK hmF hmH hmM hmD hmR hmB H.size mC mN mB ((mR x5.toNatClampNeg) ^^^ (mR x6.toNatClampNeg)) (1 : Int32) r_51 h_52) (cwV 2 hts gX6_distance_X6_had rfl rfl rfl (by decide +kernel) ⟨Nat.le_of_ble_eq_true rfl, Nat.le_of_ble_eq_true rfl⟩) (preV_wr (ci := 5) (q0 := 0) [.long ((mR x5.toNatClampNeg) ^^^ (mR x6.toNatClampNeg)), .int (1 : Int32)] hP_r_51 hD_r_51 hB rfl rfl) rfl rfl hl.1 rfl (lv_room (Nat.le_of_ble_eq_true rfl)) dX6_distance_171 ⟨Nat.zero_le _, Nat.zero_le _⟩) hP hD hS hA rfl rfl (by decide) (by decide) (fun H53 locs54 hP hD hS => ?_)
    have hP : va_P D vwCl [(hmo, .inr (5, [.int mC, .ref hmW, .ref hmP, .ref hmS, .ref hmE, .ref hmI, .ref hmO, .ref hmT, .int mN, .ref hmK, .ref hmF, .ref hmH, .ref hmM, .ref hmD, .ref hmR, .ref hmB])), (hmW, .inl (cy 0, 8, .inl mW)), (hmP, .inl (cy 1, 8, .inr (.inl mP))), (hmR, .inl (cy 1, 200, .inr (.inl mR))), (hmB, .inl (cy 1, 65536, .inr (.inl r_51.2)))] H53 := hP.sub [3, 0, 1, 2, 4] rfl
    have hD : va_D A [(hmo, .inr (5, [.int mC, .ref hmW, .ref hmP, .ref hmS, .ref hmE, .ref hmI, .ref hmO, .ref hmT, .int mN, .ref hmK, .ref hmF, .ref hmH, .ref hmM, .ref hmD, .ref hmR, .ref hmB])), (hmW, .inl (cy 0, 8, .inl mW)), (hmP, .inl (cy 1, 8, .inr (.inl mP))), (hmR, .inl (cy 1, 200, .inr (.inl mR))), (hmB, .inl (cy 1, 65536, .inr (.inl r_51.2)))] := hD.sub [3, 0, 1, 2, 4] (by decide) rfl
    refine lv_if_eq (tgt := 179) hx hb dX6_distance_174 (by decide) (fun c_55 => ?_) (fun c_55 => ?_)
    · have hf := ite_t hf c_55
      refine lv_iinc (v := (x6 + (1 : Int32))) (lv' := [(6, .int (x6 + (1 : Int32))), (0, .ref hmo), (2, .int x2), (5, .int x5)]) hx hb dX6_distance_179 hl (k := 3) rfl rfl (by decide) rfl (fun ls hl => ?_)
      refine lv_goto (tgt := 147) hx hb dX6_distance_182 (by decide) ?_
      exact hself _ _ _ _ _ _ hP hD hS (lv_sub hl [1, 2, 3, 0] rfl) hf
    · have hf := ite_f hf c_55
      refine lv_iconst (v := (4 : Int32)) hx hb dX6_distance_177 (by decide) ?_
      cases hf
      exact W.iret (v := (4 : Int32)) hx hb hr (fun t ht hW => ⟨⟨_, (), rfl, rfl, by rw [ht]; exact hP, hD⟩, hS.F ht⟩) hS.2.2 dX6_distance_178
theorem wX6_distance_L147 {p : Program} {l : Launch} {e : Env} {s : State} {m : MethodId} {args : Array Value} {below : List Frame} {meth : Method} {c : Code} {D : va_G} {cy : Nat → ClassId} {A : Nat → Prop} {hmo hmW hmP hmS hmE hmI hmO hmT hmK hmF hmH hmM hmD hmR hmB : Nat} {mN : Int32} {r0 : Int32 × (Nat → Int64) × (Nat → Int64)} (E0 : En p m c cX6_distance 7 s args wsX6_distance RX6 meth (some .int) D cy) (N : Nat) (mC : Int32) (mW : Nat → Int32) (mP : Nat → Int64) (x2 : Int32) (x5 : Int32) (hA : ∀ q, s.heap.size ≤ q → A q) (k : (Nat → Int64) → (Nat → Int64) → Option (Int32 × (Nat → Int64) × (Nat → Int64))) (hk : ∀ (mR : Nat → Int64) (mB : Nat → Int64) (H : Heap) (locs : List Loc) (ls : Array Slot), va_P D vwCl [(hmo, .inr (5, [.int mC, .ref hmW, .ref hmP, .ref hmS, .ref hmE, .ref hmI, .ref hmO, .ref hmT, .int mN, .ref hmK, .ref hmF, .ref hmH, .ref hmM, .ref hmD, .ref hmR, .ref hmB])), (hmW, .inl (cy 0, 8, .inl mW)), (hmP, .inl (cy 1, 8, .inr (.inl mP))), (hmR, .inl (cy 1, 200, .inr (.inl mR))), (hmB, .inl (cy 1, 65536, .inr (.inl mB)))] H → va_D A [(hmo, .inr (5, [.int mC, .ref hmW, .ref hmP, .ref hmS, .ref hmE, .ref hmI, .ref hmO, .ref hmT, .int mN, .ref hmK, .ref hmF, .ref hmH, .ref hmM, .ref hmD, .ref hmR, .ref hmB])), (hmW, .inl (cy 0, 8, .inl mW)), (hmP, .inl (cy 1, 8, .inr (.inl mP))), (hmR, .inl (cy 1, 200, .inr (.inl mR))), (hmB, .inl (cy 1, 65536, .inr (.inl mB)))] → va_S A s.heap H locs → lv_has ls 7 [(0, .ref hmo), (2, .int x2), (5, .int x5)] → k mR mB = some r0 → GX6_distance p l e s m args below meth c D cy A hmo hmW hmP hmS hmE hmI hmO hmT hmK hmF hmH hmM hmD hmR hmB mC mN mW mP r0 H locs (F0 m 185 ls [])) : ∀ (n : Nat), ∀ (mR : Nat → Int64) (mB : Nat → Int64) (x6 : Int32) (H : Heap) (locs : List Loc) (ls : Array Slot), va_P D vwCl [(hmo, .inr (5, [.int mC, .ref hmW, .ref hmP, .ref hmS, .ref hmE, .ref hmI, .ref hmO, .ref hmT, .int mN, .ref hmK, .ref hmF, .ref hmH, .ref hmM, .ref hmD, .ref hmR, .ref hmB])), (hmW, .inl (cy 0, 8, .inl mW)), (hmP, .inl (cy 1, 8, .inr (.inl mP))), (hmR, .inl (cy 1, 200, .inr (.inl mR))), (hmB, .inl (cy 1, 65536, .inr (.inl mB)))] H → va_D A [(hmo, .inr (5, [.int mC, .ref hmW, .ref hmP, .ref hmS, .ref hmE, .ref hmI, .ref hmO, .ref hmT, .int mN, .ref hmK, .ref hmF, .ref hmH, .ref hmM, .ref hmD, .ref hmR, .ref hmB])), (hmW, .inl (cy 0, 8, .inl mW)), (hmP, .inl (cy 1, 8, .inr (.inl mP))), (hmR, .inl (cy 1, 200, .inr (.inl mR))), (hmB, .inl (cy 1, 65536, .inr (.inl mB)))] → va_S A s.heap H locs → lv_has ls 7 [(0, .ref hmo), (2, .int x2), (5, .int x5), (6, .int x6)] → fX6_distance_L147 N mC mW mP x2 x5 k n mR mB x6 = some r0 → GX6_distance p l e s m args below meth c D cy A hmo hmW hmP hmS hmE hmI hmO hmT hmK hmF hmH hmM hmD hmR hmB mC mN mW mP r0 H locs (F0 m 147 ls []) := by
  intro n
  induction n with
  | zero => intro mR mB x6 H locs ls hP hD hS hl hf; cases hf
  | succ n ih => exact wX6_distance_B147 E0 N mC mW mP x2 x5 hA _ ih k hk
set_option maxHeartbeats 4000000 in
set_option maxRecDepth 100000 in
theorem wX6_distance_B138 {p : Program} {l : Launch} {e : Env} {s : State} {m : MethodId} {args : Array Value} {below : List Frame} {meth : Method} {c : Code} {D : va_G} {cy : Nat → ClassId} {A : Nat → Prop} {hmo hmW hmP hmS hmE hmI hmO hmT hmK hmF hmH hmM hmD hmR hmB : Nat} {mN : Int32} {r0 : Int32 × (Nat → Int64) × (Nat → Int64)} (E0 : En p m c cX6_distance 7 s args wsX6_distance RX6 meth (some .int) D cy) (N : Nat) (mC : Int32) (mW : Nat → Int32) (mP : Nat → Int64) (x2 : Int32) (hA : ∀ q, s.heap.size ≤ q → A q) (self : (Nat → Int64) → (Nat → Int64) → Int32 → Option (Int32 × (Nat → Int64) × (Nat → Int64))) (hself : ∀ (mR : Nat → Int64) (mB : Nat → Int64) (x5 : Int32) (H : Heap) (locs : List Loc) (ls : Array Slot), va_P D vwCl [(hmo, .inr (5, [.int mC, .ref hmW, .ref hmP, .ref hmS, .ref hmE, .ref hmI, .ref hmO, .ref hmT, .int mN, .ref hmK, .ref hmF, .ref hmH, .ref hmM, .ref hmD, .ref hmR, .ref hmB])), (hmW, .inl (cy 0, 8, .inl mW)), (hmP, .inl (cy 1, 8, .inr (.inl mP))), (hmR, .inl (cy 1, 200, .inr (.inl mR))), (hmB, .inl (cy 1, 65536, .inr (.inl mB)))] H → va_D A [(hmo, .inr (5, [.int mC, .ref hmW, .ref hmP, .ref hmS, .ref hmE, .ref hmI, .ref hmO, .ref hmT, .int mN, .ref hmK, .ref hmF, .ref hmH, .ref hmM, .ref hmD, .ref hmR, .ref hmB])), (hmW, .inl (cy 0, 8, .inl mW)), (hmP, .inl (cy 1, 8, .inr (.inl mP))), (hmR, .inl (cy 1, 200, .inr (.inl mR))), (hmB, .inl (cy 1, 65536, .inr (.inl mB)))] → va_S A s.heap H locs → lv_has ls 7 [(0, .ref hmo), (2, .int x2), (5, .int x5)] → self mR mB x5 = some r0 → GX6_distance p l e s m args below meth c D cy A hmo hmW hmP hmS hmE hmI hmO hmT hmK hmF hmH hmM hmD hmR hmB mC mN mW mP r0 H locs (F0 m 138 ls [])) (k : (Nat → Int64) → (Nat → Int64) → Option (Int32 × (Nat → Int64) × (Nat → Int64))) (hk : ∀ (mR : Nat → Int64) (mB : Nat → Int64) (H : Heap) (locs : List Loc) (ls : Array Slot), va_P D vwCl [(hmo, .inr (5, [.int mC, .ref hmW, .ref hmP, .ref hmS, .ref hmE, .ref hmI, .ref hmO, .ref hmT, .int mN, .ref hmK, .ref hmF, .ref hmH, .ref hmM, .ref hmD, .ref hmR, .ref hmB])), (hmW, .inl (cy 0, 8, .inl mW)), (hmP, .inl (cy 1, 8, .inr (.inl mP))), (hmR, .inl (cy 1, 200, .inr (.inl mR))), (hmB, .inl (cy 1, 65536, .inr (.inl mB)))] H → va_D A [(hmo, .inr (5, [.int mC, .ref hmW, .ref hmP, .ref hmS, .ref hmE, .ref hmI, .ref hmO, .ref hmT, .int mN, .ref hmK, .ref hmF, .ref hmH, .ref hmM, .ref hmD, .ref hmR, .ref hmB])), (hmW, .inl (cy 0, 8, .inl mW)), (hmP, .inl (cy 1, 8, .inr (.inl mP))), (hmR, .inl (cy 1, 200, .inr (.inl mR))), (hmB, .inl (cy 1, 65536, .inr (.inl mB)))] → va_S A s.heap H locs → lv_has ls 7 [] → k mR mB = some r0 → GX6_distance p l e s m args below meth c D cy A hmo hmW hmP hmS hmE hmI hmO hmT hmK hmF hmH hmM hmD hmR hmB mC mN mW mP r0 H locs (F0 m 191 ls [])) : ∀ (mR : Nat → Int64) (mB : Nat → Int64) (x5 : Int32) (H : Heap) (locs : List Loc) (ls : Array Slot), va_P D vwCl [(hmo, .inr (5, [.int mC, .ref hmW, .ref hmP, .ref hmS, .ref hmE, .ref hmI, .ref hmO, .ref hmT, .int mN, .ref hmK, .ref hmF, .ref hmH, .ref hmM, .ref hmD, .ref hmR, .ref hmB])), (hmW, .inl (cy 0, 8, .inl mW)), (hmP, .inl (cy 1, 8, .inr (.inl mP))), (hmR, .inl (cy 1, 200, .inr (.inl mR))), (hmB, .inl (cy 1, 65536, .inr (.inl mB)))] H → va_D A [(hmo, .inr (5, [.int mC, .ref hmW, .ref hmP, .ref hmS, .ref hmE, .ref hmI, .ref hmO, .ref hmT, .int mN, .ref hmK, .ref hmF, .ref hmH, .ref hmM, .ref hmD, .ref hmR, .ref hmB])), (hmW, .inl (cy 0, 8, .inl mW)), (hmP, .inl (cy 1, 8, .inr (.inl mP))), (hmR, .inl (cy 1, 200, .inr (.inl mR))), (hmB, .inl (cy 1, 65536, .inr (.inl mB)))] → va_S A s.heap H locs → lv_has ls 7 [(0, .ref hmo), (2, .int x2), (5, .int x5)] → fX6_distance_B138 N mC mW mP x2 self k mR mB x5 = some r0 → GX6_distance p l e s m args below meth c D cy A hmo hmW hmP hmS hmE hmI hmO hmT hmK hmF hmH hmM hmD hmR hmB mC mN mW mP r0 H locs (F0 m 138 ls []) := by
  obtain ⟨⟨hx, hb, hml, hown, hts⟩, hr, hlocks, hB⟩ := id E0
  have hK := hB.1
  have hN := hB.2
  intro mR mB x5 H locs ls hP hD hS hl hf
  unfold fX6_distance_B138 at hf
  refine lv_iload hx hb dX6_distance_138 (lv_at hl 2 rfl) ?_
  refine lv_iload_n hx hb dX6_distance_140 rfl (lv_at hl 1 rfl) ?_
  refine lv_icmp_ge (tgt := 191) hx hb dX6_distance_141 (by decide) (fun c_47 => ?_) (fun c_47 => ?_)
  · have hf := ite_t hf c_47
    exact hk _ _ _ _ _ hP hD hS (lv_sub hl [] rfl) hf
  · have hf := ite_f hf c_47
    refine lv_iconst (v := (0 : Int32)) hx hb dX6_distance_144 (by decide) ?_
    refine lv_istore (lv' := [(6, .int (0 : Int32)), (0, .ref hmo), (2, .int x2), (5, .int x5)]) hx hb dX6_distance_145 hl (by decide) rfl (fun ls hl => ?_)
    refine wX6_distance_L147 E0 N mC mW mP x2 x5 hA _ (fun mR_56 mB_57 H58 locs59 ls hP hD hS hl hf => ?_) N _ _ _ _ _ _ hP hD hS (lv_sub hl [1, 2, 3, 0] rfl) hf
    refine lv_iinc (v := (x5 + (1 : Int32))) (lv' := [(5, .int (x5 + (1 : Int32))), (0, .ref hmo), (2, .int x2)]) hx hb dX6_distance_185 hl (k := 2) rfl rfl (by decide) rfl (fun ls hl => ?_)
    refine lv_goto (tgt := 138) hx hb dX6_distance_188 (by decide) ?_
    exact hself _ _ _ _ _ _ hP hD hS (lv_sub hl [1, 2, 0] rfl) hf
theorem wX6_distance_L138 {p : Program} {l : Launch} {e : Env} {s : State} {m : MethodId} {args : Array Value} {below : List Frame} {meth : Method} {c : Code} {D : va_G} {cy : Nat → ClassId} {A : Nat → Prop} {hmo hmW hmP hmS hmE hmI hmO hmT hmK hmF hmH hmM hmD hmR hmB : Nat} {mN : Int32} {r0 : Int32 × (Nat → Int64) × (Nat → Int64)} (E0 : En p m c cX6_distance 7 s args wsX6_distance RX6 meth (some .int) D cy) (N : Nat) (mC : Int32) (mW : Nat → Int32) (mP : Nat → Int64) (x2 : Int32) (hA : ∀ q, s.heap.size ≤ q → A q) (k : (Nat → Int64) → (Nat → Int64) → Option (Int32 × (Nat → Int64) × (Nat → Int64))) (hk : ∀ (mR : Nat → Int64) (mB : Nat → Int64) (H : Heap) (locs : List Loc) (ls : Array Slot), va_P D vwCl [(hmo, .inr (5, [.int mC, .ref hmW, .ref hmP, .ref hmS, .ref hmE, .ref hmI, .ref hmO, .ref hmT, .int mN, .ref hmK, .ref hmF, .ref hmH, .ref hmM, .ref hmD, .ref hmR, .ref hmB])), (hmW, .inl (cy 0, 8, .inl mW)), (hmP, .inl (cy 1, 8, .inr (.inl mP))), (hmR, .inl (cy 1, 200, .inr (.inl mR))), (hmB, .inl (cy 1, 65536, .inr (.inl mB)))] H → va_D A [(hmo, .inr (5, [.int mC, .ref hmW, .ref hmP, .ref hmS, .ref hmE, .ref hmI, .ref hmO, .ref hmT, .int mN, .ref hmK, .ref hmF, .ref hmH, .ref hmM, .ref hmD, .ref hmR, .ref hmB])), (hmW, .inl (cy 0, 8, .inl mW)), (hmP, .inl (cy 1, 8, .inr (.inl mP))), (hmR, .inl (cy 1, 200, .inr (.inl mR))), (hmB, .inl (cy 1, 65536, .inr (.inl mB)))] → va_S A s.heap H locs → lv_has ls 7 [] → k mR mB = some r0 → GX6_distance p l e s m args below meth c D cy A hmo hmW hmP hmS hmE hmI hmO hmT hmK hmF hmH hmM hmD hmR hmB mC mN mW mP r0 H locs (F0 m 191 ls [])) : ∀ (n : Nat), ∀ (mR : Nat → Int64) (mB : Nat → Int64) (x5 : Int32) (H : Heap) (locs : List Loc) (ls : Array Slot), va_P D vwCl [(hmo, .inr (5, [.int mC, .ref hmW, .ref hmP, .ref hmS, .ref hmE, .ref hmI, .ref hmO, .ref hmT, .int mN, .ref hmK, .ref hmF, .ref hmH, .ref hmM, .ref hmD, .ref hmR, .ref hmB])), (hmW, .inl (cy 0, 8, .inl mW)), (hmP, .inl (cy 1, 8, .inr (.inl mP))), (hmR, .inl (cy 1, 200, .inr (.inl mR))), (hmB, .inl (cy 1, 65536, .inr (.inl mB)))] H → va_D A [(hmo, .inr (5, [.int mC, .ref hmW, .ref hmP, .ref hmS, .ref hmE, .ref hmI, .ref hmO, .ref hmT, .int mN, .ref hmK, .ref hmF, .ref hmH, .ref hmM, .ref hmD, .ref hmR, .ref hmB])), (hmW, .inl (cy 0, 8, .inl mW)), (hmP, .inl (cy 1, 8, .inr (.inl mP))), (hmR, .inl (cy 1, 200, .inr (.inl mR))), (hmB, .inl (cy 1, 65536, .inr (.inl mB)))] → va_S A s.heap H locs → lv_has ls 7 [(0, .ref hmo), (2, .int x2), (5, .int x5)] → fX6_distance_L138 N mC mW mP x2 k n mR mB x5 = some r0 → GX6_distance p l e s m args below meth c D cy A hmo hmW hmP hmS hmE hmI hmO hmT hmK hmF hmH hmM hmD hmR hmB mC mN mW mP r0 H locs (F0 m 138 ls []) := by
  intro n
  induction n with
  | zero => intro mR mB x5 H locs ls hP hD hS hl hf; cases hf
  | succ n ih => exact wX6_distance_B138 E0 N mC mW mP x2 hA _ ih k hk
set_option maxHeartbeats 4000000 in
set_option maxRecDepth 100000 in
theorem ctX6_distance (l : Launch) (D : va_G) (cy : Nat → ClassId) (N : Nat) (hmo hmW hmP hmS hmE hmI hmO hmT hmK hmF hmH hmM hmD hmR hmB : Nat) (sz : Nat) (mC : Int32) (mN : Int32) (mW : Nat → Int32) (mP : Nat → Int64) (mR : Nat → Int64) (mB : Nat → Int64) (x1 : Int32) (x2 : Int32) (r0 : Int32 × (Nat → Int64) × (Nat → Int64)) (hf : fX6_distance N mC mW mP mR mB x1 x2 = some r0) : Met l yX6_distance wsX6_distance rX6_distance (va_Pc [.ref hmo, .int x1, .int x2] (Wr D cy [(hmo, .inr (5, [.int mC, .ref hmW, .ref hmP, .ref hmS, .ref hmE, .ref hmI, .ref hmO, .ref hmT, .int mN, .ref hmK, .ref hmF, .ref hmH, .ref hmM, .ref hmD, .ref hmR, .ref hmB])), (hmW, .inl (cy 0, 8, .inl mW)), (hmP, .inl (cy 1, 8, .inr (.inl mP))), (hmR, .inl (cy 1, 200, .inr (.inl mR))), (hmB, .inl (cy 1, 65536, .inr (.inl mB)))] sz)) (Qwi D (va_A [(hmo, .inr (5, [.int mC, .ref hmW, .ref hmP, .ref hmS, .ref hmE, .ref hmI, .ref hmO, .ref hmT, .int mN, .ref hmK, .ref hmF, .ref hmH, .ref hmM, .ref hmD, .ref hmR, .ref hmB])), (hmW, .inl (cy 0, 8, .inl mW)), (hmP, .inl (cy 1, 8, .inr (.inl mP))), (hmR, .inl (cy 1, 200, .inr (.inl mR))), (hmB, .inl (cy 1, 65536, .inr (.inl mB)))] sz) [(hmo, .inr (5, [.int mC, .ref hmW, .ref hmP, .ref hmS, .ref hmE, .ref hmI, .ref hmO, .ref hmT, .int mN, .ref hmK, .ref hmF, .ref hmH, .ref hmM, .ref hmD, .ref hmR, .ref hmB])), (hmW, .inl (cy 0, 8, .inl mW)), (hmP, .inl (cy 1, 8, .inr (.inl mP))), (hmR, .inl (cy 1, 200, .inr (.inl r0.2.1))), (hmB, .inl (cy 1, 65536, .inr (.inl r0.2.2)))] r0.1) 0 0 (va_A [(hmo, .inr (5, [.int mC, .ref hmW, .ref hmP, .ref hmS, .ref hmE, .ref hmI, .ref hmO, .ref hmT, .int mN, .ref hmK, .ref hmF, .ref hmH, .ref hmM, .ref hmD, .ref hmR, .ref hmB])), (hmW, .inl (cy 0, 8, .inl mW)), (hmP, .inl (cy 1, 8, .inr (.inl mP))), (hmR, .inl (cy 1, 200, .inr (.inl mR))), (hmB, .inl (cy 1, 65536, .inr (.inl mB)))] sz) := by
  refine Met.ofW (cc := cX6_distance) (maxL := 7) (ret := (some .int)) (by decide) rfl ?_
  intro p e s m args below meth c s₁ B hml hv
  obtain ⟨rfl, hsz, hP, hD0, hB⟩ := hv
  have hx := B.exec
  have hb := B.bytes
  have hr := B.returns
  have hts := atoms_spec (ws := wsX6_distance) B.pre
  have hown : s.vm.findClass RX6 = some m.cls := findClass_of_methodNamed B.named
  have hlocks := B.notSynchronized
  have hK := hB.1
  have hN := hB.2
  subst hsz
  have hD := hD0.self (sz := s.heap.size)
  have hA : ∀ q : Nat, s.heap.size ≤ q → va_A [(hmo, .inr (5, [.int mC, .ref hmW, .ref hmP, .ref hmS, .ref hmE, .ref hmI, .ref hmO, .ref hmT, .int mN, .ref hmK, .ref hmF, .ref hmH, .ref hmM, .ref hmD, .ref hmR, .ref hmB])), (hmW, .inl (cy 0, 8, .inl mW)), (hmP, .inl (cy 1, 8, .inr (.inl mP))), (hmR, .inl (cy 1, 200, .inr (.inl mR))), (hmB, .inl (cy 1, 65536, .inr (.inl mB)))] s.heap.size q := fun q h => Or.inr h
  generalize va_A [(hmo, .inr (5, [.int mC, .ref hmW, .ref hmP, .ref hmS, .ref hmE, .ref hmI, .ref hmO, .ref hmT, .int mN, .ref hmK, .ref hmF, .ref hmH, .ref hmM, .ref hmD, .ref hmR, .ref hmB])), (hmW, .inl (cy 0, 8, .inl mW)), (hmP, .inl (cy 1, 8, .inr (.inl mP))), (hmR, .inl (cy 1, 200, .inr (.inl mR))), (hmB, .inl (cy 1, 65536, .inr (.inl mB)))] s.heap.size = A at hD hA ⊢
  have hS : va_S A s.heap s.heap [] := va_S.rf
  have hl := lv_entry ([.ref hmo, .int x1, .int x2]) (n := 7) (Nat.le_of_ble_eq_true rfl)
  rw [lg_entry_eq]
  generalize (lg_sl ([.ref hmo, .int x1, .int x2]) ++ List.replicate (7 - (lg_sl ([.ref hmo, .int x1, .int x2])).length) Slot.unset).toArray = ls at hl ⊢
  have hl : lv_has ls 7 [(0, .ref hmo), (1, .int x1), (2, .int x2)] := hl
  have E0 : En p m c cX6_distance 7 s ([.ref hmo, .int x1, .int x2] : List Value).toArray wsX6_distance RX6 meth (some .int) D cy := ⟨⟨hx, hb, hml, hown, hts⟩, hr, hlocks, hB⟩
  unfold fX6_distance at hf
  refine lv_aload_n hx hb dX6_distance_0 rfl (lv_at hl 0 rfl) ?_
  refine lv_iload_n hx hb dX6_distance_1 rfl (lv_at hl 1 rfl) ?_
  obtain ⟨r_1, h_2, hf⟩ := bind_some hf
  have hP_r_1 : va_P D vwCl [(hmo, .inr (5, [.int mC, .ref hmW, .ref hmP, .ref hmS, .ref hmE, .ref hmI, .ref hmO, .ref hmT, .int mN, .ref hmK, .ref hmF, .ref hmH, .ref hmM, .ref hmD, .ref hmR, .ref hmB]))] s.heap := hP.sub [0] rfl
  refine cz_i (va_runV (As := [.int x1]) (rest := []) ⟨hx, hb, hml, hown, hts⟩ (ctX6_isForm l D cy N hmo hmW hmP hmS hmE hmI hmO hmT hmK hmF hmH hmM hmD hmR hmB mC mN x1 r_1 h_2) (cwV 1 hts gX6_distance_X6_isForm rfl rfl rfl (by decide +kernel) ⟨Nat.le_of_ble_eq_true rfl, Nat.le_of_ble_eq_true rfl⟩) (preV_rd (ci := 5) (q0 := 0) [.int x1] hP_r_1 hB rfl rfl) rfl rfl hl.1 rfl (lv_room (Nat.le_of_ble_eq_true rfl)) dX6_distance_2 ⟨Nat.zero_le _, Nat.zero_le _⟩) ?_
  refine lv_if_eq (tgt := 20) hx hb dX6_distance_5 (by decide) (fun c_3 => ?_) (fun c_3 => ?_)
  · have hf := ite_t hf c_3
    refine lv_iconst (v := (-1 : Int32)) hx hb dX6_distance_20 (by decide) ?_
    cases hf
    exact W.iret (v := (-1 : Int32)) hx hb hr (fun t ht hW => ⟨⟨_, (), rfl, rfl, by rw [ht]; exact hP, hD⟩, hS.F ht⟩) hS.2.2 dX6_distance_21
  · have hf := ite_f hf c_3
    refine lv_iload_n hx hb dX6_distance_8 rfl (lv_at hl 2 rfl) ?_
    refine lv_iconst (v := (1 : Int32)) hx hb dX6_distance_9 (by decide) ?_
    refine lv_icmp_lt (tgt := 20) hx hb dX6_distance_10 (by decide) (fun c_4 => ?_) (fun c_4 => ?_)
    · have hf := ite_t hf c_4
      refine lv_iconst (v := (-1 : Int32)) hx hb dX6_distance_20 (by decide) ?_
      cases hf
      exact W.iret (v := (-1 : Int32)) hx hb hr (fun t ht hW => ⟨⟨_, (), rfl, rfl, by rw [ht]; exact hP, hD⟩, hS.F ht⟩) hS.2.2 dX6_distance_21
    · have hf := ite_f hf c_4
      refine lv_iload_n hx hb dX6_distance_13 rfl (lv_at hl 2 rfl) ?_
      refine lv_sipush (v := (200 : Int32)) hx hb dX6_distance_14 (by decide) ?_
      refine lv_icmp_le (tgt := 22) hx hb dX6_distance_17 (by decide) (fun c_5 => ?_) (fun c_5 => ?_)
      · have hf := ite_t hf c_5
        refine lv_lconst (v := (1 : Int64)) hx hb dX6_distance_22 (by decide) ?_
        refine lv_lstore_n (lv' := [(3, .long (1 : Int64)), (0, .ref hmo), (1, .int x1), (2, .int x2)]) hx hb dX6_distance_23 rfl hl (by decide) rfl (fun ls hl => ?_)
        refine lv_aload_n hx hb dX6_distance_24 rfl (lv_at hl 1 rfl) ?_
        obtain ⟨r_6, h_7, hf⟩ := bind_some hf
        have hP_r_6 : va_P D vwCl [(hmo, .inr (5, [.int mC, .ref hmW, .ref hmP, .ref hmS, .ref hmE, .ref hmI, .ref hmO, .ref hmT, .int mN, .ref hmK, .ref hmF, .ref hmH, .ref hmM, .ref hmD, .ref hmR, .ref hmB])), (hmB, .inl (cy 1, 65536, .inr (.inl mB)))] s.heap := hP.sub [0, 4] rfl
        have hD_r_6 : va_D A [(hmo, .inr (5, [.int mC, .ref hmW, .ref hmP, .ref hmS, .ref hmE, .ref hmI, .ref hmO, .ref hmT, .int mN, .ref hmK, .ref hmF, .ref hmH, .ref hmM, .ref hmD, .ref hmR, .ref hmB])), (hmB, .inl (cy 1, 65536, .inr (.inl mB)))] := hD.sub [0, 4] (by decide) rfl
        refine cj_v (wc := [(hmo, .inr (5, [.int mC, .ref hmW, .ref hmP, .ref hmS, .ref hmE, .ref hmI, .ref hmO, .ref hmT, .int mN, .ref hmK, .ref hmF, .ref hmH, .ref hmM, .ref hmD, .ref hmR, .ref hmB])), (hmB, .inl (cy 1, 65536, .inr (.inl mB)))]) (wr := [(hmW, .inl (cy 0, 8, .inl mW)), (hmP, .inl (cy 1, 8, .inr (.inl mP))), (hmR, .inl (cy 1, 200, .inr (.inl mR)))]) (w1 := [(hmo, .inr (5, [.int mC, .ref hmW, .ref hmP, .ref hmS, .ref hmE, .ref hmI, .ref hmO, .ref hmT, .int mN, .ref hmK, .ref hmF, .ref hmH, .ref hmM, .ref hmD, .ref hmR, .ref hmB])), (hmB, .inl (cy 1, 65536, .inr (.inl r_6)))]) [0, 4] [1, 2, 3] (va_runV (As := []) (rest := []) ⟨hx, hb, hml, hown, hts⟩ (ctX6_clear l D cy N hmo hmW hmP hmS hmE hmI hmO hmT hmK hmF hmH hmM hmD hmR hmB s.heap.size mC mN mB  r_6 h_7) (cwV 0 hts gX6_distance_X6_clear rfl rfl rfl (by decide +kernel) ⟨Nat.le_of_ble_eq_true rfl, Nat.le_of_ble_eq_true rfl⟩) (preV_wr (ci := 5) (q0 := 0) [] hP_r_6 hD_r_6 hB rfl rfl) rfl rfl hl.1 rfl (lv_room (Nat.le_of_ble_eq_true rfl)) dX6_distance_25 ⟨Nat.zero_le _, Nat.zero_le _⟩) hP hD hS hA rfl rfl (by decide) (by decide) (fun H8 locs9 hP hD hS => ?_)
        have hP : va_P D vwCl [(hmo, .inr (5, [.int mC, .ref hmW, .ref hmP, .ref hmS, .ref hmE, .ref hmI, .ref hmO, .ref hmT, .int mN, .ref hmK, .ref hmF, .ref hmH, .ref hmM, .ref hmD, .ref hmR, .ref hmB])), (hmW, .inl (cy 0, 8, .inl mW)), (hmP, .inl (cy 1, 8, .inr (.inl mP))), (hmR, .inl (cy 1, 200, .inr (.inl mR))), (hmB, .inl (cy 1, 65536, .inr (.inl r_6)))] H8 := hP.sub [3, 0, 1, 2, 4] rfl
        have hD : va_D A [(hmo, .inr (5, [.int mC, .ref hmW, .ref hmP, .ref hmS, .ref hmE, .ref hmI, .ref hmO, .ref hmT, .int mN, .ref hmK, .ref hmF, .ref hmH, .ref hmM, .ref hmD, .ref hmR, .ref hmB])), (hmW, .inl (cy 0, 8, .inl mW)), (hmP, .inl (cy 1, 8, .inr (.inl mP))), (hmR, .inl (cy 1, 200, .inr (.inl mR))), (hmB, .inl (cy 1, 65536, .inr (.inl r_6)))] := hD.sub [3, 0, 1, 2, 4] (by decide) rfl
        refine lv_iconst (v := (0 : Int32)) hx hb dX6_distance_28 (by decide) ?_
        refine lv_istore (lv' := [(5, .int (0 : Int32)), (3, .long (1 : Int64)), (0, .ref hmo), (1, .int x1), (2, .int x2)]) hx hb dX6_distance_29 hl (by decide) rfl (fun ls hl => ?_)
        refine wX6_distance_L31 E0 N mC mW mP x1 x2 hA _ (fun mR_22 mB_23 H24 locs25 ls hP hD hS hl hf => ?_) N _ _ _ _ _ _ _ hP hD hS (lv_sub hl [2, 3, 4, 1, 0] rfl) hf
        refine lv_iconst (v := (0 : Int32)) hx hb dX6_distance_75 (by decide) ?_
        refine lv_istore (lv' := [(5, .int (0 : Int32)), (0, .ref hmo), (2, .int x2)]) hx hb dX6_distance_76 hl (by decide) rfl (fun ls hl => ?_)
        refine wX6_distance_L78 E0 N mC mW mP x2 hA _ (fun mR_39 mB_40 H41 locs42 ls hP hD hS hl hf => ?_) N _ _ _ _ _ _ hP hD hS (lv_sub hl [1, 2, 0] rfl) hf
        refine lv_aload_n hx hb dX6_distance_131 rfl (lv_at hl 0 rfl) ?_
        obtain ⟨r_43, h_44, hf⟩ := bind_some hf
        have hP_r_43 : va_P D vwCl [(hmo, .inr (5, [.int mC, .ref hmW, .ref hmP, .ref hmS, .ref hmE, .ref hmI, .ref hmO, .ref hmT, .int mN, .ref hmK, .ref hmF, .ref hmH, .ref hmM, .ref hmD, .ref hmR, .ref hmB])), (hmB, .inl (cy 1, 65536, .inr (.inl mB_40)))] H41 := hP.sub [0, 4] rfl
        have hD_r_43 : va_D A [(hmo, .inr (5, [.int mC, .ref hmW, .ref hmP, .ref hmS, .ref hmE, .ref hmI, .ref hmO, .ref hmT, .int mN, .ref hmK, .ref hmF, .ref hmH, .ref hmM, .ref hmD, .ref hmR, .ref hmB])), (hmB, .inl (cy 1, 65536, .inr (.inl mB_40)))] := hD.sub [0, 4] (by decide) rfl
        refine cj_v (wc := [(hmo, .inr (5, [.int mC, .ref hmW, .ref hmP, .ref hmS, .ref hmE, .ref hmI, .ref hmO, .ref hmT, .int mN, .ref hmK, .ref hmF, .ref hmH, .ref hmM, .ref hmD, .ref hmR, .ref hmB])), (hmB, .inl (cy 1, 65536, .inr (.inl mB_40)))]) (wr := [(hmW, .inl (cy 0, 8, .inl mW)), (hmP, .inl (cy 1, 8, .inr (.inl mP))), (hmR, .inl (cy 1, 200, .inr (.inl mR_39)))]) (w1 := [(hmo, .inr (5, [.int mC, .ref hmW, .ref hmP, .ref hmS, .ref hmE, .ref hmI, .ref hmO, .ref hmT, .int mN, .ref hmK, .ref hmF, .ref hmH, .ref hmM, .ref hmD, .ref hmR, .ref hmB])), (hmB, .inl (cy 1, 65536, .inr (.inl r_43)))]) [0, 4] [1, 2, 3] (va_runV (As := []) (rest := []) ⟨hx, hb, hml, hown, hts⟩ (ctX6_clear l D cy N hmo hmW hmP hmS hmE hmI hmO hmT hmK hmF hmH hmM hmD hmR hmB H41.size mC mN mB_40  r_43 h_44) (cwV 0 hts gX6_distance_X6_clear rfl rfl rfl (by decide +kernel) ⟨Nat.le_of_ble_eq_true rfl, Nat.le_of_ble_eq_true rfl⟩) (preV_wr (ci := 5) (q0 := 0) [] hP_r_43 hD_r_43 hB rfl rfl) rfl rfl hl.1 rfl (lv_room (Nat.le_of_ble_eq_true rfl)) dX6_distance_132 ⟨Nat.zero_le _, Nat.zero_le _⟩) hP hD hS hA rfl rfl (by decide) (by decide) (fun H45 locs46 hP hD hS => ?_)
        have hP : va_P D vwCl [(hmo, .inr (5, [.int mC, .ref hmW, .ref hmP, .ref hmS, .ref hmE, .ref hmI, .ref hmO, .ref hmT, .int mN, .ref hmK, .ref hmF, .ref hmH, .ref hmM, .ref hmD, .ref hmR, .ref hmB])), (hmW, .inl (cy 0, 8, .inl mW)), (hmP, .inl (cy 1, 8, .inr (.inl mP))), (hmR, .inl (cy 1, 200, .inr (.inl mR_39))), (hmB, .inl (cy 1, 65536, .inr (.inl r_43)))] H45 := hP.sub [3, 0, 1, 2, 4] rfl
        have hD : va_D A [(hmo, .inr (5, [.int mC, .ref hmW, .ref hmP, .ref hmS, .ref hmE, .ref hmI, .ref hmO, .ref hmT, .int mN, .ref hmK, .ref hmF, .ref hmH, .ref hmM, .ref hmD, .ref hmR, .ref hmB])), (hmW, .inl (cy 0, 8, .inl mW)), (hmP, .inl (cy 1, 8, .inr (.inl mP))), (hmR, .inl (cy 1, 200, .inr (.inl mR_39))), (hmB, .inl (cy 1, 65536, .inr (.inl r_43)))] := hD.sub [3, 0, 1, 2, 4] (by decide) rfl
        refine lv_iconst (v := (0 : Int32)) hx hb dX6_distance_135 (by decide) ?_
        refine lv_istore (lv' := [(5, .int (0 : Int32)), (0, .ref hmo), (2, .int x2)]) hx hb dX6_distance_136 hl (by decide) rfl (fun ls hl => ?_)
        refine wX6_distance_L138 E0 N mC mW mP x2 hA _ (fun mR_60 mB_61 H62 locs63 ls hP hD hS hl hf => ?_) N _ _ _ _ _ _ hP hD hS (lv_sub hl [1, 2, 0] rfl) hf
        refine lv_iconst (v := (5 : Int32)) hx hb dX6_distance_191 (by decide) ?_
        cases hf
        exact W.iret (v := (5 : Int32)) hx hb hr (fun t ht hW => ⟨⟨_, (), rfl, rfl, by rw [ht]; exact hP, hD⟩, hS.F ht⟩) hS.2.2 dX6_distance_192
      · have hf := ite_f hf c_5
        refine lv_iconst (v := (-1 : Int32)) hx hb dX6_distance_20 (by decide) ?_
        cases hf
        exact W.iret (v := (-1 : Int32)) hx hb hr (fun t ht hW => ⟨⟨_, (), rfl, rfl, by rw [ht]; exact hP, hD⟩, hS.F ht⟩) hS.2.2 dX6_distance_21
/-! SumFormsModel.down(IJ)J -/
abbrev rX6_down : Room := { frames := 0, cells := 0, slots := 0, locals := 0 }
theorem mX6_down_0 : Cond.fieldLink RX6 7 "SumFormsModel" "width" "[I" ∈ wsX6_down := by decide +kernel
theorem mX6_down_1 : Cond.fieldLink RX6 13 "SumFormsModel" "poly" "[J" ∈ wsX6_down := by decide +kernel
theorem inX6_down_X6 : ∀ w ∈ u_ws RX6 TX6 16, w ∈ wsX6_down := by decide +kernel
abbrev GX6_down (p : Program) (l : Launch) (e : Env) (s : State) (m : MethodId) (args : Array Value) (below : List Frame) (meth : Method) (c : Code) (r0 : Int64) (fr : JFrame) : Prop := W p l e (headSpec wsX6_down rX6_down).room s m args below meth c s.heap [] 0 0 (MQ below (vp_Sl (fun r => r = r0)) args s 0 0 (fun _ => False)) fr
def fX6_down (N : Nat) (mW : Nat → Int32) (mP : Nat → Int64) (x1 : Int32) (x2 : Int64) : Option (Int64) := (if OOB x1 8 then none else (if (x2 &&& (1 : Int64)) = (1 : Int64) then (if OOB x1 8 then none else (some ((lShr (x2 ^^^ (mP x1.toNatClampNeg)) (1 : Int32)) ||| (lShl (1 : Int64) ((mW x1.toNatClampNeg) - (1 : Int32)))))) else (some (lShr x2 (1 : Int32)))))
set_option maxHeartbeats 4000000 in
set_option maxRecDepth 100000 in
theorem ctX6_down (l : Launch) (D : va_G) (cy : Nat → ClassId) (N : Nat) (hmo hmW hmP hmS hmE hmI hmO hmT hmK hmF hmH hmM hmD hmR hmB : Nat) (mC : Int32) (mN : Int32) (mW : Nat → Int32) (mP : Nat → Int64) (x1 : Int32) (x2 : Int64) (r0 : Int64) (hf : fX6_down N mW mP x1 x2 = some r0) : Met l yX6_down wsX6_down rX6_down (va_Pc [.ref hmo, .int x1, .long x2] (Rd D cy [(hmo, .inr (5, [.int mC, .ref hmW, .ref hmP, .ref hmS, .ref hmE, .ref hmI, .ref hmO, .ref hmT, .int mN, .ref hmK, .ref hmF, .ref hmH, .ref hmM, .ref hmD, .ref hmR, .ref hmB])), (hmW, .inl (cy 0, 8, .inl mW)), (hmP, .inl (cy 1, 8, .inr (.inl mP)))])) (vp_Sl (fun r => r = r0)) 0 0 (fun _ => False) := by
  refine Met.ofW (cc := cX6_down) (maxL := 6) (ret := (some .long)) (by decide) rfl ?_
  intro p e s m args below meth c s₁ B hml hv
  obtain ⟨rfl, hP, hB⟩ := hv
  have hx := B.exec
  have hb := B.bytes
  have hr := B.returns
  have hts := atoms_spec (ws := wsX6_down) B.pre
  have hown : s.vm.findClass RX6 = some m.cls := findClass_of_methodNamed B.named
  have hlocks := B.notSynchronized
  have hK := hB.1
  have hN := hB.2
  have hl := lv_entry ([.ref hmo, .int x1, .long x2]) (n := 6) (Nat.le_of_ble_eq_true rfl)
  rw [lg_entry_eq]
  generalize (lg_sl ([.ref hmo, .int x1, .long x2]) ++ List.replicate (6 - (lg_sl ([.ref hmo, .int x1, .long x2])).length) Slot.unset).toArray = ls at hl ⊢
  have hl : lv_has ls 6 [(0, .ref hmo), (1, .int x1), (2, .long x2)] := hl
  have E0 : En p m c cX6_down 6 s ([.ref hmo, .int x1, .long x2] : List Value).toArray wsX6_down RX6 meth (some .long) D cy := ⟨⟨hx, hb, hml, hown, hts⟩, hr, hlocks, hB⟩
  unfold fX6_down at hf
  refine lv_lconst (v := (1 : Int64)) hx hb dX6_down_0 (by decide) ?_
  refine lv_aload_n hx hb dX6_down_1 rfl (lv_at hl 0 rfl) ?_
  refine va_get (D := D) (ci := 5) (v := .ref hmW) (C := RX6) (T := TX6) (N := 16) hx hb hts inX6_down_X6 hown hK hP 0 rfl rfl 1 (by decide) (hts _ mX6_down_0) (fun _ h9 => h9) rfl dX6_down_2 ?_
  refine lv_iload_n hx hb dX6_down_5 rfl (lv_at hl 1 rfl) ?_
  obtain ⟨b_1, hf⟩ := ite_n hf
  refine va_iald hx hb hK hP 1 0 rfl rfl b_1 dX6_down_6 ?_
  refine lv_iconst (v := (1 : Int32)) hx hb dX6_down_7 (by decide) ?_
  refine lv_isub hx hb dX6_down_8 ?_
  refine zz_lshl hx hb dX6_down_9 ?_
  refine lv_lstore (lv' := [(4, .long (lShl (1 : Int64) ((mW x1.toNatClampNeg) - (1 : Int32)))), (0, .ref hmo), (1, .int x1), (2, .long x2)]) hx hb dX6_down_10 hl (by decide) rfl (fun ls hl => ?_)
  refine lv_lload_n hx hb dX6_down_12 rfl (lv_at hl 3 rfl) ?_
  refine lv_lconst (v := (1 : Int64)) hx hb dX6_down_13 (by decide) ?_
  refine lv_land hx hb dX6_down_14 ?_
  refine lv_lconst (v := (1 : Int64)) hx hb dX6_down_15 (by decide) ?_
  refine zz_lc_ne (tgt := 36) hx hb dX6_down_16 dX6_down_17 (by decide) (fun c_2 => ?_) (fun c_2 => ?_)
  · have hf := ite_f hf c_2
    refine lv_lload_n hx hb dX6_down_36 rfl (lv_at hl 3 rfl) ?_
    refine lv_iconst (v := (1 : Int32)) hx hb dX6_down_37 (by decide) ?_
    refine zz_lshr hx hb dX6_down_38 ?_
    exact W.lret (v := (lShr x2 (1 : Int32))) hx hb hr (fun t ht hW => ⟨_, rfl, Option.some.inj hf, ht⟩) (fun _ h => absurd h List.not_mem_nil) dX6_down_39
  · have hf := ite_t hf c_2
    refine lv_lload_n hx hb dX6_down_20 rfl (lv_at hl 3 rfl) ?_
    refine lv_aload_n hx hb dX6_down_21 rfl (lv_at hl 1 rfl) ?_
    refine va_get (D := D) (ci := 5) (v := .ref hmP) (C := RX6) (T := TX6) (N := 16) hx hb hts inX6_down_X6 hown hK hP 0 rfl rfl 2 (by decide) (hts _ mX6_down_1) (fun _ h9 => h9) rfl dX6_down_22 ?_
    refine lv_iload_n hx hb dX6_down_25 rfl (lv_at hl 2 rfl) ?_
    obtain ⟨b_3, hf⟩ := ite_n hf
    refine va_lald hx hb hK hP 2 1 rfl rfl b_3 dX6_down_26 ?_
    refine lv_lxor hx hb dX6_down_27 ?_
    refine lv_iconst (v := (1 : Int32)) hx hb dX6_down_28 (by decide) ?_
    refine zz_lshr hx hb dX6_down_29 ?_
    refine lv_lload hx hb dX6_down_30 (lv_at hl 0 rfl) ?_
    refine lv_lor hx hb dX6_down_32 ?_
    refine lv_goto (tgt := 39) hx hb dX6_down_33 (by decide) ?_
    exact W.lret (v := ((lShr (x2 ^^^ (mP x1.toNatClampNeg)) (1 : Int32)) ||| (lShl (1 : Int64) ((mW x1.toNatClampNeg) - (1 : Int32))))) hx hb hr (fun t ht hW => ⟨_, rfl, Option.some.inj hf, ht⟩) (fun _ h => absurd h List.not_mem_nil) dX6_down_39
/-! SumFormsModel.rest(JJI)J -/
abbrev rX6_rest : Room := { frames := 0, cells := 0, slots := 0, locals := 0 }
abbrev GX6_rest (p : Program) (l : Launch) (e : Env) (s : State) (m : MethodId) (args : Array Value) (below : List Frame) (meth : Method) (c : Code) (r0 : Int64) (fr : JFrame) : Prop := W p l e (headSpec wsX6_rest rX6_rest).room s m args below meth c s.heap [] 0 0 (MQ below (vp_Sl (fun r => r = r0)) args s 0 0 (fun _ => False)) fr
def fX6_rest_B7 (N : Nat) (x2 : Int64) (x4 : Int32) (self : Int64 → Int32 → Option (Int64)) (k : Int64 → Option (Int64)) (x5 : Int64) (x7 : Int32) : Option (Int64) := (if x7 < x4 then (k x5) else (if ((lShr x5 x7) &&& (1 : Int64)) = (1 : Int64) then (self (x5 ^^^ (lShl x2 (x7 - x4))) (x7 + (-1 : Int32))) else (self (x5 ^^^ (0 : Int64)) (x7 + (-1 : Int32)))))
def fX6_rest_L7 (N : Nat) (x2 : Int64) (x4 : Int32) (k : Int64 → Option (Int64)) : Nat → Int64 → Int32 → Option (Int64)
  | 0 => fun _ _ => none
  | n + 1 => fun x5 x7 => fX6_rest_B7 N x2 x4 (fX6_rest_L7 N x2 x4 k n) k x5 x7
def fX6_rest (N : Nat)  (x0 : Int64) (x2 : Int64) (x4 : Int32) : Option (Int64) := (fX6_rest_L7 N x2 x4 (fun x5_3 => (some x5_3)) N x0 (33 : Int32))
set_option maxHeartbeats 4000000 in
set_option maxRecDepth 100000 in
theorem wX6_rest_B7 {p : Program} {l : Launch} {e : Env} {s : State} {m : MethodId} {args : Array Value} {below : List Frame} {meth : Method} {c : Code} {D : va_G} {cy : Nat → ClassId} {r0 : Int64} (E0 : En p m c cX6_rest 8 s args wsX6_rest RX6 meth (some .long) D cy) (N : Nat) (x2 : Int64) (x4 : Int32) (hP : va_P D vwCl [] s.heap) (self : Int64 → Int32 → Option (Int64)) (hself : ∀ (x5 : Int64) (x7 : Int32) (ls : Array Slot), lv_has ls 8 [(2, .long x2), (4, .int x4), (5, .long x5), (7, .int x7)] → self x5 x7 = some r0 → GX6_rest p l e s m args below meth c r0 (F0 m 7 ls [])) (k : Int64 → Option (Int64)) (hk : ∀ (x5 : Int64) (ls : Array Slot), lv_has ls 8 [(5, .long x5)] → k x5 = some r0 → GX6_rest p l e s m args below meth c r0 (F0 m 48 ls [])) : ∀ (x5 : Int64) (x7 : Int32) (ls : Array Slot), lv_has ls 8 [(2, .long x2), (4, .int x4), (5, .long x5), (7, .int x7)] → fX6_rest_B7 N x2 x4 self k x5 x7 = some r0 → GX6_rest p l e s m args below meth c r0 (F0 m 7 ls []) := by
  obtain ⟨⟨hx, hb, hml, hown, hts⟩, hr, hlocks, hB⟩ := id E0
  have hK := hB.1
  have hN := hB.2
  intro x5 x7 ls hl hf
  unfold fX6_rest_B7 at hf
  refine lv_iload hx hb dX6_rest_7 (lv_at hl 3 rfl) ?_
  refine lv_iload hx hb dX6_rest_9 (lv_at hl 1 rfl) ?_
  refine lv_icmp_lt (tgt := 48) hx hb dX6_rest_11 (by decide) (fun c_1 => ?_) (fun c_1 => ?_)
  · have hf := ite_t hf c_1
    exact hk _ _ (lv_sub hl [2] rfl) hf
  · have hf := ite_f hf c_1
    refine lv_lload hx hb dX6_rest_14 (lv_at hl 2 rfl) ?_
    refine lv_lload hx hb dX6_rest_16 (lv_at hl 2 rfl) ?_
    refine lv_iload hx hb dX6_rest_18 (lv_at hl 3 rfl) ?_
    refine zz_lshr hx hb dX6_rest_20 ?_
    refine lv_lconst (v := (1 : Int64)) hx hb dX6_rest_21 (by decide) ?_
    refine lv_land hx hb dX6_rest_22 ?_
    refine lv_lconst (v := (1 : Int64)) hx hb dX6_rest_23 (by decide) ?_
    refine zz_lc_ne (tgt := 38) hx hb dX6_rest_24 dX6_rest_25 (by decide) (fun c_2 => ?_) (fun c_2 => ?_)
    · have hf := ite_f hf c_2
      refine lv_lconst (v := (0 : Int64)) hx hb dX6_rest_38 (by decide) ?_
      refine lv_lxor hx hb dX6_rest_39 ?_
      refine lv_lstore (lv' := [(5, .long (x5 ^^^ (0 : Int64))), (2, .long x2), (4, .int x4), (7, .int x7)]) hx hb dX6_rest_40 hl (by decide) rfl (fun ls hl => ?_)
      refine lv_iinc (v := (x7 + (-1 : Int32))) (lv' := [(7, .int (x7 + (-1 : Int32))), (5, .long (x5 ^^^ (0 : Int64))), (2, .long x2), (4, .int x4)]) hx hb dX6_rest_42 hl (k := 3) rfl rfl (by decide) rfl (fun ls hl => ?_)
      refine lv_goto (tgt := 7) hx hb dX6_rest_45 (by decide) ?_
      exact hself _ _ _ (lv_sub hl [2, 3, 1, 0] rfl) hf
    · have hf := ite_t hf c_2
      refine lv_lload_n hx hb dX6_rest_28 rfl (lv_at hl 0 rfl) ?_
      refine lv_iload hx hb dX6_rest_29 (lv_at hl 3 rfl) ?_
      refine lv_iload hx hb dX6_rest_31 (lv_at hl 1 rfl) ?_
      refine lv_isub hx hb dX6_rest_33 ?_
      refine zz_lshl hx hb dX6_rest_34 ?_
      refine lv_goto (tgt := 39) hx hb dX6_rest_35 (by decide) ?_
      refine lv_lxor hx hb dX6_rest_39 ?_
      refine lv_lstore (lv' := [(5, .long (x5 ^^^ (lShl x2 (x7 - x4)))), (2, .long x2), (4, .int x4), (7, .int x7)]) hx hb dX6_rest_40 hl (by decide) rfl (fun ls hl => ?_)
      refine lv_iinc (v := (x7 + (-1 : Int32))) (lv' := [(7, .int (x7 + (-1 : Int32))), (5, .long (x5 ^^^ (lShl x2 (x7 - x4)))), (2, .long x2), (4, .int x4)]) hx hb dX6_rest_42 hl (k := 3) rfl rfl (by decide) rfl (fun ls hl => ?_)
      refine lv_goto (tgt := 7) hx hb dX6_rest_45 (by decide) ?_
      exact hself _ _ _ (lv_sub hl [2, 3, 1, 0] rfl) hf
theorem wX6_rest_L7 {p : Program} {l : Launch} {e : Env} {s : State} {m : MethodId} {args : Array Value} {below : List Frame} {meth : Method} {c : Code} {D : va_G} {cy : Nat → ClassId} {r0 : Int64} (E0 : En p m c cX6_rest 8 s args wsX6_rest RX6 meth (some .long) D cy) (N : Nat) (x2 : Int64) (x4 : Int32) (hP : va_P D vwCl [] s.heap) (k : Int64 → Option (Int64)) (hk : ∀ (x5 : Int64) (ls : Array Slot), lv_has ls 8 [(5, .long x5)] → k x5 = some r0 → GX6_rest p l e s m args below meth c r0 (F0 m 48 ls [])) : ∀ (n : Nat), ∀ (x5 : Int64) (x7 : Int32) (ls : Array Slot), lv_has ls 8 [(2, .long x2), (4, .int x4), (5, .long x5), (7, .int x7)] → fX6_rest_L7 N x2 x4 k n x5 x7 = some r0 → GX6_rest p l e s m args below meth c r0 (F0 m 7 ls []) := by
  intro n
  induction n with
  | zero => intro x5 x7 ls hl hf; cases hf
  | succ n ih => exact wX6_rest_B7 E0 N x2 x4 hP _ ih k hk
set_option maxHeartbeats 4000000 in
set_option maxRecDepth 100000 in
theorem ctX6_rest (l : Launch) (D : va_G) (cy : Nat → ClassId) (N : Nat)  (x0 : Int64) (x2 : Int64) (x4 : Int32) (r0 : Int64) (hf : fX6_rest N x0 x2 x4 = some r0) : Met l yX6_rest wsX6_rest rX6_rest (va_Pc [.long x0, .long x2, .int x4] (Rd D cy [])) (vp_Sl (fun r => r = r0)) 0 0 (fun _ => False) := by
  refine Met.ofW (cc := cX6_rest) (maxL := 8) (ret := (some .long)) (by decide) rfl ?_
  intro p e s m args below meth c s₁ B hml hv
  obtain ⟨rfl, hP, hB⟩ := hv
  have hx := B.exec
  have hb := B.bytes
  have hr := B.returns
  have hts := atoms_spec (ws := wsX6_rest) B.pre
  have hown : s.vm.findClass RX6 = some m.cls := findClass_of_methodNamed B.named
  have hlocks := B.notSynchronized
  have hK := hB.1
  have hN := hB.2
  have hl := lv_entry ([.long x0, .long x2, .int x4]) (n := 8) (Nat.le_of_ble_eq_true rfl)
  rw [lg_entry_eq]
  generalize (lg_sl ([.long x0, .long x2, .int x4]) ++ List.replicate (8 - (lg_sl ([.long x0, .long x2, .int x4])).length) Slot.unset).toArray = ls at hl ⊢
  have hl : lv_has ls 8 [(0, .long x0), (2, .long x2), (4, .int x4)] := hl
  have E0 : En p m c cX6_rest 8 s ([.long x0, .long x2, .int x4] : List Value).toArray wsX6_rest RX6 meth (some .long) D cy := ⟨⟨hx, hb, hml, hown, hts⟩, hr, hlocks, hB⟩
  unfold fX6_rest at hf
  refine lv_lload_n hx hb dX6_rest_0 rfl (lv_at hl 0 rfl) ?_
  refine lv_lstore (lv' := [(5, .long x0), (0, .long x0), (2, .long x2), (4, .int x4)]) hx hb dX6_rest_1 hl (by decide) rfl (fun ls hl => ?_)
  refine lv_bipush (v := (33 : Int32)) hx hb dX6_rest_3 (by decide) ?_
  refine lv_istore (lv' := [(7, .int (33 : Int32)), (5, .long x0), (0, .long x0), (2, .long x2), (4, .int x4)]) hx hb dX6_rest_5 hl (by decide) rfl (fun ls hl => ?_)
  refine wX6_rest_L7 E0 N x2 x4 hP _ (fun x5_3 ls hl hf => ?_) N _ _ _ (lv_sub hl [3, 4, 1, 0] rfl) hf
  refine lv_lload hx hb dX6_rest_48 (lv_at hl 0 rfl) ?_
  exact W.lret (v := x5_3) hx hb hr (fun t ht hW => ⟨_, rfl, Option.some.inj hf, ht⟩) (fun _ h => absurd h List.not_mem_nil) dX6_rest_50
/-! SumFormsModel.quotient(JJI)J -/
abbrev rX6_quotient : Room := { frames := 0, cells := 0, slots := 0, locals := 0 }
abbrev GX6_quotient (p : Program) (l : Launch) (e : Env) (s : State) (m : MethodId) (args : Array Value) (below : List Frame) (meth : Method) (c : Code) (r0 : Int64) (fr : JFrame) : Prop := W p l e (headSpec wsX6_quotient rX6_quotient).room s m args below meth c s.heap [] 0 0 (MQ below (vp_Sl (fun r => r = r0)) args s 0 0 (fun _ => False)) fr
def fX6_quotient_B10 (N : Nat) (x2 : Int64) (x4 : Int32) (self : Int64 → Int64 → Int32 → Option (Int64)) (k : Int64 → Option (Int64)) (x5 : Int64) (x7 : Int64) (x9 : Int32) : Option (Int64) := (if x9 < x4 then (k x7) else (if ((lShr x5 x9) &&& (1 : Int64)) = (1 : Int64) then (self (x5 ^^^ (lShl x2 (x9 - x4))) (x7 ||| (lShl (1 : Int64) (x9 - x4))) (x9 + (-1 : Int32))) else (self x5 x7 (x9 + (-1 : Int32)))))
def fX6_quotient_L10 (N : Nat) (x2 : Int64) (x4 : Int32) (k : Int64 → Option (Int64)) : Nat → Int64 → Int64 → Int32 → Option (Int64)
  | 0 => fun _ _ _ => none
  | n + 1 => fun x5 x7 x9 => fX6_quotient_B10 N x2 x4 (fX6_quotient_L10 N x2 x4 k n) k x5 x7 x9
def fX6_quotient (N : Nat)  (x0 : Int64) (x2 : Int64) (x4 : Int32) : Option (Int64) := (fX6_quotient_L10 N x2 x4 (fun x7_3 => (some x7_3)) N x0 (0 : Int64) (33 : Int32))
set_option maxHeartbeats 4000000 in
set_option maxRecDepth 100000 in
theorem wX6_quotient_B10 {p : Program} {l : Launch} {e : Env} {s : State} {m : MethodId} {args : Array Value} {below : List Frame} {meth : Method} {c : Code} {D : va_G} {cy : Nat → ClassId} {r0 : Int64} (E0 : En p m c cX6_quotient 10 s args wsX6_quotient RX6 meth (some .long) D cy) (N : Nat) (x2 : Int64) (x4 : Int32) (hP : va_P D vwCl [] s.heap) (self : Int64 → Int64 → Int32 → Option (Int64)) (hself : ∀ (x5 : Int64) (x7 : Int64) (x9 : Int32) (ls : Array Slot), lv_has ls 10 [(2, .long x2), (4, .int x4), (5, .long x5), (7, .long x7), (9, .int x9)] → self x5 x7 x9 = some r0 → GX6_quotient p l e s m args below meth c r0 (F0 m 10 ls [])) (k : Int64 → Option (Int64)) (hk : ∀ (x7 : Int64) (ls : Array Slot), lv_has ls 10 [(7, .long x7)] → k x7 = some r0 → GX6_quotient p l e s m args below meth c r0 (F0 m 59 ls [])) : ∀ (x5 : Int64) (x7 : Int64) (x9 : Int32) (ls : Array Slot), lv_has ls 10 [(2, .long x2), (4, .int x4), (5, .long x5), (7, .long x7), (9, .int x9)] → fX6_quotient_B10 N x2 x4 self k x5 x7 x9 = some r0 → GX6_quotient p l e s m args below meth c r0 (F0 m 10 ls []) := by
  obtain ⟨⟨hx, hb, hml, hown, hts⟩, hr, hlocks, hB⟩ := id E0
  have hK := hB.1
  have hN := hB.2
  intro x5 x7 x9 ls hl hf
  unfold fX6_quotient_B10 at hf
  refine lv_iload hx hb dX6_quotient_10 (lv_at hl 4 rfl) ?_
  refine lv_iload hx hb dX6_quotient_12 (lv_at hl 1 rfl) ?_
  refine lv_icmp_lt (tgt := 59) hx hb dX6_quotient_14 (by decide) (fun c_1 => ?_) (fun c_1 => ?_)
  · have hf := ite_t hf c_1
    exact hk _ _ (lv_sub hl [3] rfl) hf
  · have hf := ite_f hf c_1
    refine lv_lload hx hb dX6_quotient_17 (lv_at hl 2 rfl) ?_
    refine lv_iload hx hb dX6_quotient_19 (lv_at hl 4 rfl) ?_
    refine zz_lshr hx hb dX6_quotient_21 ?_
    refine lv_lconst (v := (1 : Int64)) hx hb dX6_quotient_22 (by decide) ?_
    refine lv_land hx hb dX6_quotient_23 ?_
    refine lv_lconst (v := (1 : Int64)) hx hb dX6_quotient_24 (by decide) ?_
    refine zz_lc_ne (tgt := 53) hx hb dX6_quotient_25 dX6_quotient_26 (by decide) (fun c_2 => ?_) (fun c_2 => ?_)
    · have hf := ite_f hf c_2
      refine lv_iinc (v := (x9 + (-1 : Int32))) (lv' := [(9, .int (x9 + (-1 : Int32))), (2, .long x2), (4, .int x4), (5, .long x5), (7, .long x7)]) hx hb dX6_quotient_53 hl (k := 4) rfl rfl (by decide) rfl (fun ls hl => ?_)
      refine lv_goto (tgt := 10) hx hb dX6_quotient_56 (by decide) ?_
      exact hself _ _ _ _ (lv_sub hl [1, 2, 3, 4, 0] rfl) hf
    · have hf := ite_t hf c_2
      refine lv_lload hx hb dX6_quotient_29 (lv_at hl 2 rfl) ?_
      refine lv_lload_n hx hb dX6_quotient_31 rfl (lv_at hl 0 rfl) ?_
      refine lv_iload hx hb dX6_quotient_32 (lv_at hl 4 rfl) ?_
      refine lv_iload hx hb dX6_quotient_34 (lv_at hl 1 rfl) ?_
      refine lv_isub hx hb dX6_quotient_36 ?_
      refine zz_lshl hx hb dX6_quotient_37 ?_
      refine lv_lxor hx hb dX6_quotient_38 ?_
      refine lv_lstore (lv' := [(5, .long (x5 ^^^ (lShl x2 (x9 - x4)))), (2, .long x2), (4, .int x4), (7, .long x7), (9, .int x9)]) hx hb dX6_quotient_39 hl (by decide) rfl (fun ls hl => ?_)
      refine lv_lload hx hb dX6_quotient_41 (lv_at hl 3 rfl) ?_
      refine lv_lconst (v := (1 : Int64)) hx hb dX6_quotient_43 (by decide) ?_
      refine lv_iload hx hb dX6_quotient_44 (lv_at hl 4 rfl) ?_
      refine lv_iload hx hb dX6_quotient_46 (lv_at hl 2 rfl) ?_
      refine lv_isub hx hb dX6_quotient_48 ?_
      refine zz_lshl hx hb dX6_quotient_49 ?_
      refine lv_lor hx hb dX6_quotient_50 ?_
      refine lv_lstore (lv' := [(7, .long (x7 ||| (lShl (1 : Int64) (x9 - x4)))), (5, .long (x5 ^^^ (lShl x2 (x9 - x4)))), (2, .long x2), (4, .int x4), (9, .int x9)]) hx hb dX6_quotient_51 hl (by decide) rfl (fun ls hl => ?_)
      refine lv_iinc (v := (x9 + (-1 : Int32))) (lv' := [(9, .int (x9 + (-1 : Int32))), (7, .long (x7 ||| (lShl (1 : Int64) (x9 - x4)))), (5, .long (x5 ^^^ (lShl x2 (x9 - x4)))), (2, .long x2), (4, .int x4)]) hx hb dX6_quotient_53 hl (k := 4) rfl rfl (by decide) rfl (fun ls hl => ?_)
      refine lv_goto (tgt := 10) hx hb dX6_quotient_56 (by decide) ?_
      exact hself _ _ _ _ (lv_sub hl [3, 4, 2, 1, 0] rfl) hf
theorem wX6_quotient_L10 {p : Program} {l : Launch} {e : Env} {s : State} {m : MethodId} {args : Array Value} {below : List Frame} {meth : Method} {c : Code} {D : va_G} {cy : Nat → ClassId} {r0 : Int64} (E0 : En p m c cX6_quotient 10 s args wsX6_quotient RX6 meth (some .long) D cy) (N : Nat) (x2 : Int64) (x4 : Int32) (hP : va_P D vwCl [] s.heap) (k : Int64 → Option (Int64)) (hk : ∀ (x7 : Int64) (ls : Array Slot), lv_has ls 10 [(7, .long x7)] → k x7 = some r0 → GX6_quotient p l e s m args below meth c r0 (F0 m 59 ls [])) : ∀ (n : Nat), ∀ (x5 : Int64) (x7 : Int64) (x9 : Int32) (ls : Array Slot), lv_has ls 10 [(2, .long x2), (4, .int x4), (5, .long x5), (7, .long x7), (9, .int x9)] → fX6_quotient_L10 N x2 x4 k n x5 x7 x9 = some r0 → GX6_quotient p l e s m args below meth c r0 (F0 m 10 ls []) := by
  intro n
  induction n with
  | zero => intro x5 x7 x9 ls hl hf; cases hf
  | succ n ih => exact wX6_quotient_B10 E0 N x2 x4 hP _ ih k hk
set_option maxHeartbeats 4000000 in
set_option maxRecDepth 100000 in
theorem ctX6_quotient (l : Launch) (D : va_G) (cy : Nat → ClassId) (N : Nat)  (x0 : Int64) (x2 : Int64) (x4 : Int32) (r0 : Int64) (hf : fX6_quotient N x0 x2 x4 = some r0) : Met l yX6_quotient wsX6_quotient rX6_quotient (va_Pc [.long x0, .long x2, .int x4] (Rd D cy [])) (vp_Sl (fun r => r = r0)) 0 0 (fun _ => False) := by
  refine Met.ofW (cc := cX6_quotient) (maxL := 10) (ret := (some .long)) (by decide) rfl ?_
  intro p e s m args below meth c s₁ B hml hv
  obtain ⟨rfl, hP, hB⟩ := hv
  have hx := B.exec
  have hb := B.bytes
  have hr := B.returns
  have hts := atoms_spec (ws := wsX6_quotient) B.pre
  have hown : s.vm.findClass RX6 = some m.cls := findClass_of_methodNamed B.named
  have hlocks := B.notSynchronized
  have hK := hB.1
  have hN := hB.2
  have hl := lv_entry ([.long x0, .long x2, .int x4]) (n := 10) (Nat.le_of_ble_eq_true rfl)
  rw [lg_entry_eq]
  generalize (lg_sl ([.long x0, .long x2, .int x4]) ++ List.replicate (10 - (lg_sl ([.long x0, .long x2, .int x4])).length) Slot.unset).toArray = ls at hl ⊢
  have hl : lv_has ls 10 [(0, .long x0), (2, .long x2), (4, .int x4)] := hl
  have E0 : En p m c cX6_quotient 10 s ([.long x0, .long x2, .int x4] : List Value).toArray wsX6_quotient RX6 meth (some .long) D cy := ⟨⟨hx, hb, hml, hown, hts⟩, hr, hlocks, hB⟩
  unfold fX6_quotient at hf
  refine lv_lload_n hx hb dX6_quotient_0 rfl (lv_at hl 0 rfl) ?_
  refine lv_lstore (lv' := [(5, .long x0), (0, .long x0), (2, .long x2), (4, .int x4)]) hx hb dX6_quotient_1 hl (by decide) rfl (fun ls hl => ?_)
  refine lv_lconst (v := (0 : Int64)) hx hb dX6_quotient_3 (by decide) ?_
  refine lv_lstore (lv' := [(7, .long (0 : Int64)), (5, .long x0), (0, .long x0), (2, .long x2), (4, .int x4)]) hx hb dX6_quotient_4 hl (by decide) rfl (fun ls hl => ?_)
  refine lv_bipush (v := (33 : Int32)) hx hb dX6_quotient_6 (by decide) ?_
  refine lv_istore (lv' := [(9, .int (33 : Int32)), (7, .long (0 : Int64)), (5, .long x0), (0, .long x0), (2, .long x2), (4, .int x4)]) hx hb dX6_quotient_8 hl (by decide) rfl (fun ls hl => ?_)
  refine wX6_quotient_L10 E0 N x2 x4 hP _ (fun x7_3 ls hl hf => ?_) N _ _ _ _ (lv_sub hl [4, 5, 2, 1, 0] rfl) hf
  refine lv_lload hx hb dX6_quotient_59 (lv_at hl 0 rfl) ?_
  exact W.lret (v := x7_3) hx hb hr (fun t ht hW => ⟨_, rfl, Option.some.inj hf, ht⟩) (fun _ h => absurd h List.not_mem_nil) dX6_quotient_61

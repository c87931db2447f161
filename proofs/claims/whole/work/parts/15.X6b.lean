/-! SumFormsModel.times(IJJ)J -/
abbrev rX6_times : Room := { frames := 1, cells := 0, slots := 0, locals := 27 }
theorem mX6_times_0 : Cond.fieldLink RX6 7 "SumFormsModel" "width" "[I" ∈ wsX6_times := by decide +kernel
theorem inX6_times_X6 : ∀ w ∈ u_ws RX6 TX6 16, w ∈ wsX6_times := by decide +kernel
abbrev GX6_times (p : Program) (l : Launch) (e : Env) (s : State) (m : MethodId) (args : Array Value) (below : List Frame) (meth : Method) (c : Code) (r0 : Int64) (fr : JFrame) : Prop := W p l e (headSpec wsX6_times rX6_times).room s m args below meth c s.heap [] 0 0 (MQ below (vp_Sl (fun r => r = r0)) args s 0 0 (fun _ => False)) fr
def fX6_times_B13 (N : Nat) (mW : Nat → Int32) (mP : Nat → Int64) (x1 : Int32) (x2 : Int64) (x4 : Int64) (self : Int64 → Int32 → Option (Int64)) (k : Int64 → Option (Int64)) (x6 : Int64) (x8 : Int32) : Option (Int64) := (if x8 < 0 then (k x6) else ((fX6_up N mW mP x1 x6).bind (fun r_3 => (if ((lShr x4 x8) &&& (1 : Int64)) = (1 : Int64) then (self (r_3 ^^^ x2) (x8 + (-1 : Int32))) else (self (r_3 ^^^ (0 : Int64)) (x8 + (-1 : Int32)))))))
def fX6_times_L13 (N : Nat) (mW : Nat → Int32) (mP : Nat → Int64) (x1 : Int32) (x2 : Int64) (x4 : Int64) (k : Int64 → Option (Int64)) : Nat → Int64 → Int32 → Option (Int64)
  | 0 => fun _ _ => none
  | n + 1 => fun x6 x8 => fX6_times_B13 N mW mP x1 x2 x4 (fX6_times_L13 N mW mP x1 x2 x4 k n) k x6 x8
def fX6_times (N : Nat) (mW : Nat → Int32) (mP : Nat → Int64) (x1 : Int32) (x2 : Int64) (x4 : Int64) : Option (Int64) := (if OOB x1 8 then none else (fX6_times_L13 N mW mP x1 x2 x4 (fun x6_6 => (some x6_6)) N (0 : Int64) ((mW x1.toNatClampNeg) - (1 : Int32))))
set_option maxHeartbeats 4000000 in
set_option maxRecDepth 100000 in
theorem wX6_times_B13 {p : Program} {l : Launch} {e : Env} {s : State} {m : MethodId} {args : Array Value} {below : List Frame} {meth : Method} {c : Code} {D : va_G} {cy : Nat → ClassId} {hmo hmW hmP hmS hmE hmI hmO hmT hmK hmF hmH hmM hmD hmR hmB : Nat} {mC : Int32} {mN : Int32} {r0 : Int64} (E0 : En p m c cX6_times 9 s args wsX6_times RX6 meth (some .long) D cy) (N : Nat) (mW : Nat → Int32) (mP : Nat → Int64) (x1 : Int32) (x2 : Int64) (x4 : Int64) (hP : va_P D vwCl [(hmo, .inr (5, [.int mC, .ref hmW, .ref hmP, .ref hmS, .ref hmE, .ref hmI, .ref hmO, .ref hmT, .int mN, .ref hmK, .ref hmF, .ref hmH, .ref hmM, .ref hmD, .ref hmR, .ref hmB])), (hmW, .inl (cy 0, 8, .inl mW)), (hmP, .inl (cy 1, 8, .inr (.inl mP)))] s.heap) (self : Int64 → Int32 → Option (Int64)) (hself : ∀ (x6 : Int64) (x8 : Int32) (ls : Array Slot), lv_has ls 9 [(0, .ref hmo), (1, .int x1), (2, .long x2), (4, .long x4), (6, .long x6), (8, .int x8)] → self x6 x8 = some r0 → GX6_times p l e s m args below meth c r0 (F0 m 13 ls [])) (k : Int64 → Option (Int64)) (hk : ∀ (x6 : Int64) (ls : Array Slot), lv_has ls 9 [(6, .long x6)] → k x6 = some r0 → GX6_times p l e s m args below meth c r0 (F0 m 55 ls [])) : ∀ (x6 : Int64) (x8 : Int32) (ls : Array Slot), lv_has ls 9 [(0, .ref hmo), (1, .int x1), (2, .long x2), (4, .long x4), (6, .long x6), (8, .int x8)] → fX6_times_B13 N mW mP x1 x2 x4 self k x6 x8 = some r0 → GX6_times p l e s m args below meth c r0 (F0 m 13 ls []) := by
  obtain ⟨⟨hx, hb, hml, hown, hts⟩, hr, hlocks, hB⟩ := id E0
  have hK := hB.1
  have hN := hB.2
  intro x6 x8 ls hl hf
  unfold fX6_times_B13 at hf
  refine lv_iload hx hb dX6_times_13 (lv_at hl 5 rfl) ?_
  refine lv_if_lt (tgt := 55) hx hb dX6_times_15 (by decide) (fun c_2 => ?_) (fun c_2 => ?_)
  · have hf := ite_t hf c_2
    exact hk _ _ (lv_sub hl [4] rfl) hf
  · have hf := ite_f hf c_2
    refine lv_aload_n hx hb dX6_times_18 rfl (lv_at hl 0 rfl) ?_
    refine lv_iload_n hx hb dX6_times_19 rfl (lv_at hl 1 rfl) ?_
    refine lv_lload hx hb dX6_times_20 (lv_at hl 4 rfl) ?_
    obtain ⟨r_3, h_4, hf⟩ := bind_some hf
    have hP_r_3 : va_P D vwCl [(hmo, .inr (5, [.int mC, .ref hmW, .ref hmP, .ref hmS, .ref hmE, .ref hmI, .ref hmO, .ref hmT, .int mN, .ref hmK, .ref hmF, .ref hmH, .ref hmM, .ref hmD, .ref hmR, .ref hmB])), (hmW, .inl (cy 0, 8, .inl mW)), (hmP, .inl (cy 1, 8, .inr (.inl mP)))] s.heap := hP.sub [0, 1, 2] rfl
    refine cz_l (va_runV (As := [.int x1, .long x6]) (rest := []) ⟨hx, hb, hml, hown, hts⟩ (ctX6_up l D cy N hmo hmW hmP hmS hmE hmI hmO hmT hmK hmF hmH hmM hmD hmR hmB mC mN mW mP x1 x6 r_3 h_4) (cwV 2 hts gX6_times_X6_up rfl rfl rfl (by decide +kernel) ⟨Nat.le_of_ble_eq_true rfl, Nat.le_of_ble_eq_true rfl⟩) (preV_rd (ci := 5) (q0 := 0) [.int x1, .long x6] hP_r_3 hB rfl rfl) rfl rfl hl.1 rfl (lv_room (Nat.le_of_ble_eq_true rfl)) dX6_times_22 ⟨Nat.zero_le _, Nat.zero_le _⟩) ?_
    refine lv_lstore (lv' := [(6, .long r_3), (0, .ref hmo), (1, .int x1), (2, .long x2), (4, .long x4), (8, .int x8)]) hx hb dX6_times_25 hl (by decide) rfl (fun ls hl => ?_)
    refine lv_lload hx hb dX6_times_27 (lv_at hl 0 rfl) ?_
    refine lv_lload hx hb dX6_times_29 (lv_at hl 4 rfl) ?_
    refine lv_iload hx hb dX6_times_31 (lv_at hl 5 rfl) ?_
    refine zz_lshr hx hb dX6_times_33 ?_
    refine lv_lconst (v := (1 : Int64)) hx hb dX6_times_34 (by decide) ?_
    refine lv_land hx hb dX6_times_35 ?_
    refine lv_lconst (v := (1 : Int64)) hx hb dX6_times_36 (by decide) ?_
    refine zz_lc_ne (tgt := 45) hx hb dX6_times_37 dX6_times_38 (by decide) (fun c_5 => ?_) (fun c_5 => ?_)
    · have hf := ite_f hf c_5
      refine lv_lconst (v := (0 : Int64)) hx hb dX6_times_45 (by decide) ?_
      refine lv_lxor hx hb dX6_times_46 ?_
      refine lv_lstore (lv' := [(6, .long (r_3 ^^^ (0 : Int64))), (0, .ref hmo), (1, .int x1), (2, .long x2), (4, .long x4), (8, .int x8)]) hx hb dX6_times_47 hl (by decide) rfl (fun ls hl => ?_)
      refine lv_iinc (v := (x8 + (-1 : Int32))) (lv' := [(8, .int (x8 + (-1 : Int32))), (6, .long (r_3 ^^^ (0 : Int64))), (0, .ref hmo), (1, .int x1), (2, .long x2), (4, .long x4)]) hx hb dX6_times_49 hl (k := 5) rfl rfl (by decide) rfl (fun ls hl => ?_)
      refine lv_goto (tgt := 13) hx hb dX6_times_52 (by decide) ?_
      exact hself _ _ _ (lv_sub hl [2, 3, 4, 5, 1, 0] rfl) hf
    · have hf := ite_t hf c_5
      refine lv_lload_n hx hb dX6_times_41 rfl (lv_at hl 3 rfl) ?_
      refine lv_goto (tgt := 46) hx hb dX6_times_42 (by decide) ?_
      refine lv_lxor hx hb dX6_times_46 ?_
      refine lv_lstore (lv' := [(6, .long (r_3 ^^^ x2)), (0, .ref hmo), (1, .int x1), (2, .long x2), (4, .long x4), (8, .int x8)]) hx hb dX6_times_47 hl (by decide) rfl (fun ls hl => ?_)
      refine lv_iinc (v := (x8 + (-1 : Int32))) (lv' := [(8, .int (x8 + (-1 : Int32))), (6, .long (r_3 ^^^ x2)), (0, .ref hmo), (1, .int x1), (2, .long x2), (4, .long x4)]) hx hb dX6_times_49 hl (k := 5) rfl rfl (by decide) rfl (fun ls hl => ?_)
      refine lv_goto (tgt := 13) hx hb dX6_times_52 (by decide) ?_
      exact hself _ _ _ (lv_sub hl [2, 3, 4, 5, 1, 0] rfl) hf
theorem wX6_times_L13 {p : Program} {l : Launch} {e : Env} {s : State} {m : MethodId} {args : Array Value} {below : List Frame} {meth : Method} {c : Code} {D : va_G} {cy : Nat → ClassId} {hmo hmW hmP hmS hmE hmI hmO hmT hmK hmF hmH hmM hmD hmR hmB : Nat} {mC : Int32} {mN : Int32} {r0 : Int64} (E0 : En p m c cX6_times 9 s args wsX6_times RX6 meth (some .long) D cy) (N : Nat) (mW : Nat → Int32) (mP : Nat → Int64) (x1 : Int32) (x2 : Int64) (x4 : Int64) (hP : va_P D vwCl [(hmo, .inr (5, [.int mC, .ref hmW, .ref hmP, .ref hmS, .ref hmE, .ref hmI, .ref hmO, .ref hmT, .int mN, .ref hmK, .ref hmF, .ref hmH, .ref hmM, .ref hmD, .ref hmR, .ref hmB])), (hmW, .inl (cy 0, 8, .inl mW)), (hmP, .inl (cy 1, 8, .inr (.inl mP)))] s.heap) (k : Int64 → Option (Int64)) (hk : ∀ (x6 : Int64) (ls : Array Slot), lv_has ls 9 [(6, .long x6)] → k x6 = some r0 → GX6_times p l e s m args below meth c r0 (F0 m 55 ls [])) : ∀ (n : Nat), ∀ (x6 : Int64) (x8 : Int32) (ls : Array Slot), lv_has ls 9 [(0, .ref hmo), (1, .int x1), (2, .long x2), (4, .long x4), (6, .long x6), (8, .int x8)] → fX6_times_L13 N mW mP x1 x2 x4 k n x6 x8 = some r0 → GX6_times p l e s m args below meth c r0 (F0 m 13 ls []) := by
  intro n
  induction n with
  | zero => intro x6 x8 ls hl hf; cases hf
  | succ n ih => exact wX6_times_B13 E0 N mW mP x1 x2 x4 hP _ ih k hk
set_option maxHeartbeats 4000000 in
set_option maxRecDepth 100000 in
theorem ctX6_times (l : Launch) (D : va_G) (cy : Nat → ClassId) (N : Nat) (hmo hmW hmP hmS hmE hmI hmO hmT hmK hmF hmH hmM hmD hmR hmB : Nat) (mC : Int32) (mN : Int32) (mW : Nat → Int32) (mP : Nat → Int64) (x1 : Int32) (x2 : Int64) (x4 : Int64) (r0 : Int64) (hf : fX6_times N mW mP x1 x2 x4 = some r0) : Met l yX6_times wsX6_times rX6_times (va_Pc [.ref hmo, .int x1, .long x2, .long x4] (Rd D cy [(hmo, .inr (5, [.int mC, .ref hmW, .ref hmP, .ref hmS, .ref hmE, .ref hmI, .ref hmO, .ref hmT, .int mN, .ref hmK, .ref hmF, .ref hmH, .ref hmM, .ref hmD, .ref hmR, .ref hmB])), (hmW, .inl (cy 0, 8, .inl mW)), (hmP, .inl (cy 1, 8, .inr (.inl mP)))])) (vp_Sl (fun r => r = r0)) 0 0 (fun _ => False) := by
  refine Met.ofW (cc := cX6_times) (maxL := 9) (ret := (some .long)) (by decide) rfl ?_
  intro p e s m args below meth c s₁ B hml hv
  obtain ⟨rfl, hP, hB⟩ := hv
  have hx := B.exec
  have hb := B.bytes
  have hr := B.returns
  have hts := atoms_spec (ws := wsX6_times) B.pre
  have hown : s.vm.findClass RX6 = some m.cls := findClass_of_methodNamed B.named
  have hlocks := B.notSynchronized
  have hK := hB.1
  have hN := hB.2
  have hl := lv_entry ([.ref hmo, .int x1, .long x2, .long x4]) (n := 9) (Nat.le_of_ble_eq_true rfl)
  rw [lg_entry_eq]
  generalize (lg_sl ([.ref hmo, .int x1, .long x2, .long x4]) ++ List.replicate (9 - (lg_sl ([.ref hmo, .int x1, .long x2, .long x4])).length) Slot.unset).toArray = ls at hl ⊢
  have hl : lv_has ls 9 [(0, .ref hmo), (1, .int x1), (2, .long x2), (4, .long x4)] := hl
  have E0 : En p m c cX6_times 9 s ([.ref hmo, .int x1, .long x2, .long x4] : List Value).toArray wsX6_times RX6 meth (some .long) D cy := ⟨⟨hx, hb, hml, hown, hts⟩, hr, hlocks, hB⟩
  unfold fX6_times at hf
  refine lv_lconst (v := (0 : Int64)) hx hb dX6_times_0 (by decide) ?_
  refine lv_lstore (lv' := [(6, .long (0 : Int64)), (0, .ref hmo), (1, .int x1), (2, .long x2), (4, .long x4)]) hx hb dX6_times_1 hl (by decide) rfl (fun ls hl => ?_)
  refine lv_aload_n hx hb dX6_times_3 rfl (lv_at hl 1 rfl) ?_
  refine va_get (D := D) (ci := 5) (v := .ref hmW) (C := RX6) (T := TX6) (N := 16) hx hb hts inX6_times_X6 hown hK hP 0 rfl rfl 1 (by decide) (hts _ mX6_times_0) (fun _ h9 => h9) rfl dX6_times_4 ?_
  refine lv_iload_n hx hb dX6_times_7 rfl (lv_at hl 2 rfl) ?_
  obtain ⟨b_1, hf⟩ := ite_n hf
  refine va_iald hx hb hK hP 1 0 rfl rfl b_1 dX6_times_8 ?_
  refine lv_iconst (v := (1 : Int32)) hx hb dX6_times_9 (by decide) ?_
  refine lv_isub hx hb dX6_times_10 ?_
  refine lv_istore (lv' := [(8, .int ((mW x1.toNatClampNeg) - (1 : Int32))), (6, .long (0 : Int64)), (0, .ref hmo), (1, .int x1), (2, .long x2), (4, .long x4)]) hx hb dX6_times_11 hl (by decide) rfl (fun ls hl => ?_)
  refine wX6_times_L13 E0 N mW mP x1 x2 x4 hP _ (fun x6_6 ls hl hf => ?_) N _ _ _ (lv_sub hl [2, 3, 4, 5, 1, 0] rfl) hf
  refine lv_lload hx hb dX6_times_55 (lv_at hl 0 rfl) ?_
  exact W.lret (v := x6_6) hx hb hr (fun t ht hW => ⟨_, rfl, Option.some.inj hf, ht⟩) (fun _ h => absurd h List.not_mem_nil) dX6_times_57
/-! SumFormsModel.power(IJJ)J -/
abbrev rX6_power : Room := { frames := 2, cells := 0, slots := 0, locals := 55 }
abbrev GX6_power (p : Program) (l : Launch) (e : Env) (s : State) (m : MethodId) (args : Array Value) (below : List Frame) (meth : Method) (c : Code) (r0 : Int64) (fr : JFrame) : Prop := W p l e (headSpec wsX6_power rX6_power).room s m args below meth c s.heap [] 0 0 (MQ below (vp_Sl (fun r => r = r0)) args s 0 0 (fun _ => False)) fr
def fX6_power_B9 (N : Nat) (mW : Nat → Int32) (mP : Nat → Int64) (x1 : Int32) (x4 : Int64) (self : Int64 → Int64 → Int32 → Option (Int64)) (k : Int64 → Option (Int64)) (x6 : Int64) (x8 : Int64) (x10 : Int32) : Option (Int64) := (if (63 : Int32) ≤ x10 then (k x6) else (if ((lShr x4 x10) &&& (1 : Int64)) = (1 : Int64) then ((fX6_times N mW mP x1 x6 x8).bind (fun r_5 => ((fX6_times N mW mP x1 x8 x8).bind (fun r_7 => (self r_5 r_7 (x10 + (1 : Int32))))))) else ((fX6_times N mW mP x1 x8 x8).bind (fun r_3 => (self x6 r_3 (x10 + (1 : Int32)))))))
def fX6_power_L9 (N : Nat) (mW : Nat → Int32) (mP : Nat → Int64) (x1 : Int32) (x4 : Int64) (k : Int64 → Option (Int64)) : Nat → Int64 → Int64 → Int32 → Option (Int64)
  | 0 => fun _ _ _ => none
  | n + 1 => fun x6 x8 x10 => fX6_power_B9 N mW mP x1 x4 (fX6_power_L9 N mW mP x1 x4 k n) k x6 x8 x10
def fX6_power (N : Nat) (mW : Nat → Int32) (mP : Nat → Int64) (x1 : Int32) (x2 : Int64) (x4 : Int64) : Option (Int64) := (fX6_power_L9 N mW mP x1 x4 (fun x6_9 => (some x6_9)) N (1 : Int64) x2 (0 : Int32))
set_option maxHeartbeats 4000000 in
set_option maxRecDepth 100000 in
theorem wX6_power_B9 {p : Program} {l : Launch} {e : Env} {s : State} {m : MethodId} {args : Array Value} {below : List Frame} {meth : Method} {c : Code} {D : va_G} {cy : Nat → ClassId} {hmo hmW hmP hmS hmE hmI hmO hmT hmK hmF hmH hmM hmD hmR hmB : Nat} {mC : Int32} {mN : Int32} {r0 : Int64} (E0 : En p m c cX6_power 11 s args wsX6_power RX6 meth (some .long) D cy) (N : Nat) (mW : Nat → Int32) (mP : Nat → Int64) (x1 : Int32) (x4 : Int64) (hP : va_P D vwCl [(hmo, .inr (5, [.int mC, .ref hmW, .ref hmP, .ref hmS, .ref hmE, .ref hmI, .ref hmO, .ref hmT, .int mN, .ref hmK, .ref hmF, .ref hmH, .ref hmM, .ref hmD, .ref hmR, .ref hmB])), (hmW, .inl (cy 0, 8, .inl mW)), (hmP, .inl (cy 1, 8, .inr (.inl mP)))] s.heap) (self : Int64 → Int64 → Int32 → Option (Int64)) (hself : ∀ (x6 : Int64) (x8 : Int64) (x10 : Int32) (ls : Array Slot), lv_has ls 11 [(0, .ref hmo), (1, .int x1), (4, .long x4), (6, .long x6), (8, .long x8), (10, .int x10)] → self x6 x8 x10 = some r0 → GX6_power p l e s m args below meth c r0 (F0 m 9 ls [])) (k : Int64 → Option (Int64)) (hk : ∀ (x6 : Int64) (ls : Array Slot), lv_has ls 11 [(6, .long x6)] → k x6 = some r0 → GX6_power p l e s m args below meth c r0 (F0 m 56 ls [])) : ∀ (x6 : Int64) (x8 : Int64) (x10 : Int32) (ls : Array Slot), lv_has ls 11 [(0, .ref hmo), (1, .int x1), (4, .long x4), (6, .long x6), (8, .long x8), (10, .int x10)] → fX6_power_B9 N mW mP x1 x4 self k x6 x8 x10 = some r0 → GX6_power p l e s m args below meth c r0 (F0 m 9 ls []) := by
  obtain ⟨⟨hx, hb, hml, hown, hts⟩, hr, hlocks, hB⟩ := id E0
  have hK := hB.1
  have hN := hB.2
  intro x6 x8 x10 ls hl hf
  unfold fX6_power_B9 at hf
  refine lv_iload hx hb dX6_power_9 (lv_at hl 5 rfl) ?_
  refine lv_bipush (v := (63 : Int32)) hx hb dX6_power_11 (by decide) ?_
  refine lv_icmp_ge (tgt := 56) hx hb dX6_power_13 (by decide) (fun c_1 => ?_) (fun c_1 => ?_)
  · have hf := ite_t hf c_1
    exact hk _ _ (lv_sub hl [3] rfl) hf
  · have hf := ite_f hf c_1
    refine lv_lload hx hb dX6_power_16 (lv_at hl 2 rfl) ?_
    refine lv_iload hx hb dX6_power_18 (lv_at hl 5 rfl) ?_
    refine zz_lshr hx hb dX6_power_20 ?_
    refine lv_lconst (v := (1 : Int64)) hx hb dX6_power_21 (by decide) ?_
    refine lv_land hx hb dX6_power_22 ?_
    refine lv_lconst (v := (1 : Int64)) hx hb dX6_power_23 (by decide) ?_
    refine zz_lc_ne (tgt := 39) hx hb dX6_power_24 dX6_power_25 (by decide) (fun c_2 => ?_) (fun c_2 => ?_)
    · have hf := ite_f hf c_2
      refine lv_aload_n hx hb dX6_power_39 rfl (lv_at hl 0 rfl) ?_
      refine lv_iload_n hx hb dX6_power_40 rfl (lv_at hl 1 rfl) ?_
      refine lv_lload hx hb dX6_power_41 (lv_at hl 4 rfl) ?_
      refine lv_lload hx hb dX6_power_43 (lv_at hl 4 rfl) ?_
      obtain ⟨r_3, h_4, hf⟩ := bind_some hf
      have hP_r_3 : va_P D vwCl [(hmo, .inr (5, [.int mC, .ref hmW, .ref hmP, .ref hmS, .ref hmE, .ref hmI, .ref hmO, .ref hmT, .int mN, .ref hmK, .ref hmF, .ref hmH, .ref hmM, .ref hmD, .ref hmR, .ref hmB])), (hmW, .inl (cy 0, 8, .inl mW)), (hmP, .inl (cy 1, 8, .inr (.inl mP)))] s.heap := hP.sub [0, 1, 2] rfl
      refine cz_l (va_runV (As := [.int x1, .long x8, .long x8]) (rest := []) ⟨hx, hb, hml, hown, hts⟩ (ctX6_times l D cy N hmo hmW hmP hmS hmE hmI hmO hmT hmK hmF hmH hmM hmD hmR hmB mC mN mW mP x1 x8 x8 r_3 h_4) (cwV 3 hts gX6_power_X6_times rfl rfl rfl (by decide +kernel) ⟨Nat.le_of_ble_eq_true rfl, Nat.le_of_ble_eq_true rfl⟩) (preV_rd (ci := 5) (q0 := 0) [.int x1, .long x8, .long x8] hP_r_3 hB rfl rfl) rfl rfl hl.1 rfl (lv_room (Nat.le_of_ble_eq_true rfl)) dX6_power_45 ⟨Nat.zero_le _, Nat.zero_le _⟩) ?_
      refine lv_lstore (lv' := [(8, .long r_3), (0, .ref hmo), (1, .int x1), (4, .long x4), (6, .long x6), (10, .int x10)]) hx hb dX6_power_48 hl (by decide) rfl (fun ls hl => ?_)
      refine lv_iinc (v := (x10 + (1 : Int32))) (lv' := [(10, .int (x10 + (1 : Int32))), (8, .long r_3), (0, .ref hmo), (1, .int x1), (4, .long x4), (6, .long x6)]) hx hb dX6_power_50 hl (k := 5) rfl rfl (by decide) rfl (fun ls hl => ?_)
      refine lv_goto (tgt := 9) hx hb dX6_power_53 (by decide) ?_
      exact hself _ _ _ _ (lv_sub hl [2, 3, 4, 5, 1, 0] rfl) hf
    · have hf := ite_t hf c_2
      refine lv_aload_n hx hb dX6_power_28 rfl (lv_at hl 0 rfl) ?_
      refine lv_iload_n hx hb dX6_power_29 rfl (lv_at hl 1 rfl) ?_
      refine lv_lload hx hb dX6_power_30 (lv_at hl 3 rfl) ?_
      refine lv_lload hx hb dX6_power_32 (lv_at hl 4 rfl) ?_
      obtain ⟨r_5, h_6, hf⟩ := bind_some hf
      have hP_r_5 : va_P D vwCl [(hmo, .inr (5, [.int mC, .ref hmW, .ref hmP, .ref hmS, .ref hmE, .ref hmI, .ref hmO, .ref hmT, .int mN, .ref hmK, .ref hmF, .ref hmH, .ref hmM, .ref hmD, .ref hmR, .ref hmB])), (hmW, .inl (cy 0, 8, .inl mW)), (hmP, .inl (cy 1, 8, .inr (.inl mP)))] s.heap := hP.sub [0, 1, 2] rfl
      refine cz_l (va_runV (As := [.int x1, .long x6, .long x8]) (rest := []) ⟨hx, hb, hml, hown, hts⟩ (ctX6_times l D cy N hmo hmW hmP hmS hmE hmI hmO hmT hmK hmF hmH hmM hmD hmR hmB mC mN mW mP x1 x6 x8 r_5 h_6) (cwV 3 hts gX6_power_X6_times rfl rfl rfl (by decide +kernel) ⟨Nat.le_of_ble_eq_true rfl, Nat.le_of_ble_eq_true rfl⟩) (preV_rd (ci := 5) (q0 := 0) [.int x1, .long x6, .long x8] hP_r_5 hB rfl rfl) rfl rfl hl.1 rfl (lv_room (Nat.le_of_ble_eq_true rfl)) dX6_power_34 ⟨Nat.zero_le _, Nat.zero_le _⟩) ?_
      refine lv_lstore (lv' := [(6, .long r_5), (0, .ref hmo), (1, .int x1), (4, .long x4), (8, .long x8), (10, .int x10)]) hx hb dX6_power_37 hl (by decide) rfl (fun ls hl => ?_)
      refine lv_aload_n hx hb dX6_power_39 rfl (lv_at hl 1 rfl) ?_
      refine lv_iload_n hx hb dX6_power_40 rfl (lv_at hl 2 rfl) ?_
      refine lv_lload hx hb dX6_power_41 (lv_at hl 4 rfl) ?_
      refine lv_lload hx hb dX6_power_43 (lv_at hl 4 rfl) ?_
      obtain ⟨r_7, h_8, hf⟩ := bind_some hf
      have hP_r_7 : va_P D vwCl [(hmo, .inr (5, [.int mC, .ref hmW, .ref hmP, .ref hmS, .ref hmE, .ref hmI, .ref hmO, .ref hmT, .int mN, .ref hmK, .ref hmF, .ref hmH, .ref hmM, .ref hmD, .ref hmR, .ref hmB])), (hmW, .inl (cy 0, 8, .inl mW)), (hmP, .inl (cy 1, 8, .inr (.inl mP)))] s.heap := hP.sub [0, 1, 2] rfl
      refine cz_l (va_runV (As := [.int x1, .long x8, .long x8]) (rest := []) ⟨hx, hb, hml, hown, hts⟩ (ctX6_times l D cy N hmo hmW hmP hmS hmE hmI hmO hmT hmK hmF hmH hmM hmD hmR hmB mC mN mW mP x1 x8 x8 r_7 h_8) (cwV 3 hts gX6_power_X6_times rfl rfl rfl (by decide +kernel) ⟨Nat.le_of_ble_eq_true rfl, Nat.le_of_ble_eq_true rfl⟩) (preV_rd (ci := 5) (q0 := 0) [.int x1, .long x8, .long x8] hP_r_7 hB rfl rfl) rfl rfl hl.1 rfl (lv_room (Nat.le_of_ble_eq_true rfl)) dX6_power_45 ⟨Nat.zero_le _, Nat.zero_le _⟩) ?_
      refine lv_lstore (lv' := [(8, .long r_7), (6, .long r_5), (0, .ref hmo), (1, .int x1), (4, .long x4), (10, .int x10)]) hx hb dX6_power_48 hl (by decide) rfl (fun ls hl => ?_)
      refine lv_iinc (v := (x10 + (1 : Int32))) (lv' := [(10, .int (x10 + (1 : Int32))), (8, .long r_7), (6, .long r_5), (0, .ref hmo), (1, .int x1), (4, .long x4)]) hx hb dX6_power_50 hl (k := 5) rfl rfl (by decide) rfl (fun ls hl => ?_)
      refine lv_goto (tgt := 9) hx hb dX6_power_53 (by decide) ?_
      exact hself _ _ _ _ (lv_sub hl [3, 4, 5, 2, 1, 0] rfl) hf
theorem wX6_power_L9 {p : Program} {l : Launch} {e : Env} {s : State} {m : MethodId} {args : Array Value} {below : List Frame} {meth : Method} {c : Code} {D : va_G} {cy : Nat → ClassId} {hmo hmW hmP hmS hmE hmI hmO hmT hmK hmF hmH hmM hmD hmR hmB : Nat} {mC : Int32} {mN : Int32} {r0 : Int64} (E0 : En p m c cX6_power 11 s args wsX6_power RX6 meth (some .long) D cy) (N : Nat) (mW : Nat → Int32) (mP : Nat → Int64) (x1 : Int32) (x4 : Int64) (hP : va_P D vwCl [(hmo, .inr (5, [.int mC, .ref hmW, .ref hmP, .ref hmS, .ref hmE, .ref hmI, .ref hmO, .ref hmT, .int mN, .ref hmK, .ref hmF, .ref hmH, .ref hmM, .ref hmD, .ref hmR, .ref hmB])), (hmW, .inl (cy 0, 8, .inl mW)), (hmP, .inl (cy 1, 8, .inr (.inl mP)))] s.heap) (k : Int64 → Option (Int64)) (hk : ∀ (x6 : Int64) (ls : Array Slot), lv_has ls 11 [(6, .long x6)] → k x6 = some r0 → GX6_power p l e s m args below meth c r0 (F0 m 56 ls [])) : ∀ (n : Nat), ∀ (x6 : Int64) (x8 : Int64) (x10 : Int32) (ls : Array Slot), lv_has ls 11 [(0, .ref hmo), (1, .int x1), (4, .long x4), (6, .long x6), (8, .long x8), (10, .int x10)] → fX6_power_L9 N mW mP x1 x4 k n x6 x8 x10 = some r0 → GX6_power p l e s m args below meth c r0 (F0 m 9 ls []) := by
  intro n
  induction n with
  | zero => intro x6 x8 x10 ls hl hf; cases hf
  | succ n ih => exact wX6_power_B9 E0 N mW mP x1 x4 hP _ ih k hk
set_option maxHeartbeats 4000000 in
set_option maxRecDepth 100000 in
theorem ctX6_power (l : Launch) (D : va_G) (cy : Nat → ClassId) (N : Nat) (hmo hmW hmP hmS hmE hmI hmO hmT hmK hmF hmH hmM hmD hmR hmB : Nat) (mC : Int32) (mN : Int32) (mW : Nat → Int32) (mP : Nat → Int64) (x1 : Int32) (x2 : Int64) (x4 : Int64) (r0 : Int64) (hf : fX6_power N mW mP x1 x2 x4 = some r0) : Met l yX6_power wsX6_power rX6_power (va_Pc [.ref hmo, .int x1, .long x2, .long x4] (Rd D cy [(hmo, .inr (5, [.int mC, .ref hmW, .ref hmP, .ref hmS, .ref hmE, .ref hmI, .ref hmO, .ref hmT, .int mN, .ref hmK, .ref hmF, .ref hmH, .ref hmM, .ref hmD, .ref hmR, .ref hmB])), (hmW, .inl (cy 0, 8, .inl mW)), (hmP, .inl (cy 1, 8, .inr (.inl mP)))])) (vp_Sl (fun r => r = r0)) 0 0 (fun _ => False) := by
  refine Met.ofW (cc := cX6_power) (maxL := 11) (ret := (some .long)) (by decide) rfl ?_
  intro p e s m args below meth c s₁ B hml hv
  obtain ⟨rfl, hP, hB⟩ := hv
  have hx := B.exec
  have hb := B.bytes
  have hr := B.returns
  have hts := atoms_spec (ws := wsX6_power) B.pre
  have hown : s.vm.findClass RX6 = some m.cls := findClass_of_methodNamed B.named
  have hlocks := B.notSynchronized
  have hK := hB.1
  have hN := hB.2
  have hl := lv_entry ([.ref hmo, .int x1, .long x2, .long x4]) (n := 11) (Nat.le_of_ble_eq_true rfl)
  rw [lg_entry_eq]
  generalize (lg_sl ([.ref hmo, .int x1, .long x2, .long x4]) ++ List.replicate (11 - (lg_sl ([.ref hmo, .int x1, .long x2, .long x4])).length) Slot.unset).toArray = ls at hl ⊢
  have hl : lv_has ls 11 [(0, .ref hmo), (1, .int x1), (2, .long x2), (4, .long x4)] := hl
  have E0 : En p m c cX6_power 11 s ([.ref hmo, .int x1, .long x2, .long x4] : List Value).toArray wsX6_power RX6 meth (some .long) D cy := ⟨⟨hx, hb, hml, hown, hts⟩, hr, hlocks, hB⟩
  unfold fX6_power at hf
  refine lv_lconst (v := (1 : Int64)) hx hb dX6_power_0 (by decide) ?_
  refine lv_lstore (lv' := [(6, .long (1 : Int64)), (0, .ref hmo), (1, .int x1), (2, .long x2), (4, .long x4)]) hx hb dX6_power_1 hl (by decide) rfl (fun ls hl => ?_)
  refine lv_lload_n hx hb dX6_power_3 rfl (lv_at hl 3 rfl) ?_
  refine lv_lstore (lv' := [(8, .long x2), (6, .long (1 : Int64)), (0, .ref hmo), (1, .int x1), (2, .long x2), (4, .long x4)]) hx hb dX6_power_4 hl (by decide) rfl (fun ls hl => ?_)
  refine lv_iconst (v := (0 : Int32)) hx hb dX6_power_6 (by decide) ?_
  refine lv_istore (lv' := [(10, .int (0 : Int32)), (8, .long x2), (6, .long (1 : Int64)), (0, .ref hmo), (1, .int x1), (2, .long x2), (4, .long x4)]) hx hb dX6_power_7 hl (by decide) rfl (fun ls hl => ?_)
  refine wX6_power_L9 E0 N mW mP x1 x4 hP _ (fun x6_9 ls hl hf => ?_) N _ _ _ _ (lv_sub hl [3, 4, 6, 2, 1, 0] rfl) hf
  refine lv_lload hx hb dX6_power_56 (lv_at hl 0 rfl) ?_
  exact W.lret (v := x6_9) hx hb hr (fun t ht hW => ⟨_, rfl, Option.some.inj hf, ht⟩) (fun _ h => absurd h List.not_mem_nil) dX6_power_58
/-! SumFormsModel.moved(IJJ)J -/
abbrev rX6_moved : Room := { frames := 3, cells := 0, slots := 0, locals := 85 }
abbrev GX6_moved (p : Program) (l : Launch) (e : Env) (s : State) (m : MethodId) (args : Array Value) (below : List Frame) (meth : Method) (c : Code) (r0 : Int64) (fr : JFrame) : Prop := W p l e (headSpec wsX6_moved rX6_moved).room s m args below meth c s.heap [] 0 0 (MQ below (vp_Sl (fun r => r = r0)) args s 0 0 (fun _ => False)) fr
def fX6_moved_B6 (N : Nat) (mW : Nat → Int32) (mP : Nat → Int64) (x1 : Int32) (x2 : Int64) (x4 : Int64) (self : Int64 → Int32 → Option (Int64)) (k : Int64 → Option (Int64)) (x6 : Int64) (x8 : Int32) : Option (Int64) := (if (8 : Int32) ≤ x8 then (k x6) else ((fX6_up N mW mP x1 x6).bind (fun r_2 => (self r_2 (x8 + (1 : Int32))))))
def fX6_moved_L6 (N : Nat) (mW : Nat → Int32) (mP : Nat → Int64) (x1 : Int32) (x2 : Int64) (x4 : Int64) (k : Int64 → Option (Int64)) : Nat → Int64 → Int32 → Option (Int64)
  | 0 => fun _ _ => none
  | n + 1 => fun x6 x8 => fX6_moved_B6 N mW mP x1 x2 x4 (fX6_moved_L6 N mW mP x1 x2 x4 k n) k x6 x8
def fX6_moved (N : Nat) (mW : Nat → Int32) (mP : Nat → Int64) (x1 : Int32) (x2 : Int64) (x4 : Int64) : Option (Int64) := (fX6_moved_L6 N mW mP x1 x2 x4 (fun x6_4 => ((fX6_power N mW mP x1 x6_4 x4).bind (fun r_5 => ((fX6_times N mW mP x1 x2 r_5).bind (fun r_7 => (some r_7)))))) N (1 : Int64) (0 : Int32))
set_option maxHeartbeats 4000000 in
set_option maxRecDepth 100000 in
theorem wX6_moved_B6 {p : Program} {l : Launch} {e : Env} {s : State} {m : MethodId} {args : Array Value} {below : List Frame} {meth : Method} {c : Code} {D : va_G} {cy : Nat → ClassId} {hmo hmW hmP hmS hmE hmI hmO hmT hmK hmF hmH hmM hmD hmR hmB : Nat} {mC : Int32} {mN : Int32} {r0 : Int64} (E0 : En p m c cX6_moved 9 s args wsX6_moved RX6 meth (some .long) D cy) (N : Nat) (mW : Nat → Int32) (mP : Nat → Int64) (x1 : Int32) (x2 : Int64) (x4 : Int64) (hP : va_P D vwCl [(hmo, .inr (5, [.int mC, .ref hmW, .ref hmP, .ref hmS, .ref hmE, .ref hmI, .ref hmO, .ref hmT, .int mN, .ref hmK, .ref hmF, .ref hmH, .ref hmM, .ref hmD, .ref hmR, .ref hmB])), (hmW, .inl (cy 0, 8, .inl mW)), (hmP, .inl (cy 1, 8, .inr (.inl mP)))] s.heap) (self : Int64 → Int32 → Option (Int64)) (hself : ∀ (x6 : Int64) (x8 : Int32) (ls : Array Slot), lv_has ls 9 [(0, .ref hmo), (1, .int x1), (2, .long x2), (4, .long x4), (6, .long x6), (8, .int x8)] → self x6 x8 = some r0 → GX6_moved p l e s m args below meth c r0 (F0 m 6 ls [])) (k : Int64 → Option (Int64)) (hk : ∀ (x6 : Int64) (ls : Array Slot), lv_has ls 9 [(0, .ref hmo), (1, .int x1), (2, .long x2), (4, .long x4), (6, .long x6)] → k x6 = some r0 → GX6_moved p l e s m args below meth c r0 (F0 m 28 ls [])) : ∀ (x6 : Int64) (x8 : Int32) (ls : Array Slot), lv_has ls 9 [(0, .ref hmo), (1, .int x1), (2, .long x2), (4, .long x4), (6, .long x6), (8, .int x8)] → fX6_moved_B6 N mW mP x1 x2 x4 self k x6 x8 = some r0 → GX6_moved p l e s m args below meth c r0 (F0 m 6 ls []) := by
  obtain ⟨⟨hx, hb, hml, hown, hts⟩, hr, hlocks, hB⟩ := id E0
  have hK := hB.1
  have hN := hB.2
  intro x6 x8 ls hl hf
  unfold fX6_moved_B6 at hf
  refine lv_iload hx hb dX6_moved_6 (lv_at hl 5 rfl) ?_
  refine lv_bipush (v := (8 : Int32)) hx hb dX6_moved_8 (by decide) ?_
  refine lv_icmp_ge (tgt := 28) hx hb dX6_moved_10 (by decide) (fun c_1 => ?_) (fun c_1 => ?_)
  · have hf := ite_t hf c_1
    exact hk _ _ (lv_sub hl [0, 1, 2, 3, 4] rfl) hf
  · have hf := ite_f hf c_1
    refine lv_aload_n hx hb dX6_moved_13 rfl (lv_at hl 0 rfl) ?_
    refine lv_iload_n hx hb dX6_moved_14 rfl (lv_at hl 1 rfl) ?_
    refine lv_lload hx hb dX6_moved_15 (lv_at hl 4 rfl) ?_
    obtain ⟨r_2, h_3, hf⟩ := bind_some hf
    have hP_r_2 : va_P D vwCl [(hmo, .inr (5, [.int mC, .ref hmW, .ref hmP, .ref hmS, .ref hmE, .ref hmI, .ref hmO, .ref hmT, .int mN, .ref hmK, .ref hmF, .ref hmH, .ref hmM, .ref hmD, .ref hmR, .ref hmB])), (hmW, .inl (cy 0, 8, .inl mW)), (hmP, .inl (cy 1, 8, .inr (.inl mP)))] s.heap := hP.sub [0, 1, 2] rfl
    refine cz_l (va_runV (As := [.int x1, .long x6]) (rest := []) ⟨hx, hb, hml, hown, hts⟩ (ctX6_up l D cy N hmo hmW hmP hmS hmE hmI hmO hmT hmK hmF hmH hmM hmD hmR hmB mC mN mW mP x1 x6 r_2 h_3) (cwV 2 hts gX6_moved_X6_up rfl rfl rfl (by decide +kernel) ⟨Nat.le_of_ble_eq_true rfl, Nat.le_of_ble_eq_true rfl⟩) (preV_rd (ci := 5) (q0 := 0) [.int x1, .long x6] hP_r_2 hB rfl rfl) rfl rfl hl.1 rfl (lv_room (Nat.le_of_ble_eq_true rfl)) dX6_moved_17 ⟨Nat.zero_le _, Nat.zero_le _⟩) ?_
    refine lv_lstore (lv' := [(6, .long r_2), (0, .ref hmo), (1, .int x1), (2, .long x2), (4, .long x4), (8, .int x8)]) hx hb dX6_moved_20 hl (by decide) rfl (fun ls hl => ?_)
    refine lv_iinc (v := (x8 + (1 : Int32))) (lv' := [(8, .int (x8 + (1 : Int32))), (6, .long r_2), (0, .ref hmo), (1, .int x1), (2, .long x2), (4, .long x4)]) hx hb dX6_moved_22 hl (k := 5) rfl rfl (by decide) rfl (fun ls hl => ?_)
    refine lv_goto (tgt := 6) hx hb dX6_moved_25 (by decide) ?_
    exact hself _ _ _ (lv_sub hl [2, 3, 4, 5, 1, 0] rfl) hf
theorem wX6_moved_L6 {p : Program} {l : Launch} {e : Env} {s : State} {m : MethodId} {args : Array Value} {below : List Frame} {meth : Method} {c : Code} {D : va_G} {cy : Nat → ClassId} {hmo hmW hmP hmS hmE hmI hmO hmT hmK hmF hmH hmM hmD hmR hmB : Nat} {mC : Int32} {mN : Int32} {r0 : Int64} (E0 : En p m c cX6_moved 9 s args wsX6_moved RX6 meth (some .long) D cy) (N : Nat) (mW : Nat → Int32) (mP : Nat → Int64) (x1 : Int32) (x2 : Int64) (x4 : Int64) (hP : va_P D vwCl [(hmo, .inr (5, [.int mC, .ref hmW, .ref hmP, .ref hmS, .ref hmE, .ref hmI, .ref hmO, .ref hmT, .int mN, .ref hmK, .ref hmF, .ref hmH, .ref hmM, .ref hmD, .ref hmR, .ref hmB])), (hmW, .inl (cy 0, 8, .inl mW)), (hmP, .inl (cy 1, 8, .inr (.inl mP)))] s.heap) (k : Int64 → Option (Int64)) (hk : ∀ (x6 : Int64) (ls : Array Slot), lv_has ls 9 [(0, .ref hmo), (1, .int x1), (2, .long x2), (4, .long x4), (6, .long x6)] → k x6 = some r0 → GX6_moved p l e s m args below meth c r0 (F0 m 28 ls [])) : ∀ (n : Nat), ∀ (x6 : Int64) (x8 : Int32) (ls : Array Slot), lv_has ls 9 [(0, .ref hmo), (1, .int x1), (2, .long x2), (4, .long x4), (6, .long x6), (8, .int x8)] → fX6_moved_L6 N mW mP x1 x2 x4 k n x6 x8 = some r0 → GX6_moved p l e s m args below meth c r0 (F0 m 6 ls []) := by
  intro n
  induction n with
  | zero => intro x6 x8 ls hl hf; cases hf
  | succ n ih => exact wX6_moved_B6 E0 N mW mP x1 x2 x4 hP _ ih k hk
set_option maxHeartbeats 4000000 in
set_option maxRecDepth 100000 in
theorem ctX6_moved (l : Launch) (D : va_G) (cy : Nat → ClassId) (N : Nat) (hmo hmW hmP hmS hmE hmI hmO hmT hmK hmF hmH hmM hmD hmR hmB : Nat) (mC : Int32) (mN : Int32) (mW : Nat → Int32) (mP : Nat → Int64) (x1 : Int32) (x2 : Int64) (x4 : Int64) (r0 : Int64) (hf : fX6_moved N mW mP x1 x2 x4 = some r0) : Met l yX6_moved wsX6_moved rX6_moved (va_Pc [.ref hmo, .int x1, .long x2, .long x4] (Rd D cy [(hmo, .inr (5, [.int mC, .ref hmW, .ref hmP, .ref hmS, .ref hmE, .ref hmI, .ref hmO, .ref hmT, .int mN, .ref hmK, .ref hmF, .ref hmH, .ref hmM, .ref hmD, .ref hmR, .ref hmB])), (hmW, .inl (cy 0, 8, .inl mW)), (hmP, .inl (cy 1, 8, .inr (.inl mP)))])) (vp_Sl (fun r => r = r0)) 0 0 (fun _ => False) := by
  refine Met.ofW (cc := cX6_moved) (maxL := 9) (ret := (some .long)) (by decide) rfl ?_
  intro p e s m args below meth c s₁ B hml hv
  obtain ⟨rfl, hP, hB⟩ := hv
  have hx := B.exec
  have hb := B.bytes
  have hr := B.returns
  have hts := atoms_spec (ws := wsX6_moved) B.pre
  have hown : s.vm.findClass RX6 = some m.cls := findClass_of_methodNamed B.named
  have hlocks := B.notSynchronized
  have hK := hB.1
  have hN := hB.2
  have hl := lv_entry ([.ref hmo, .int x1, .long x2, .long x4]) (n := 9) (Nat.le_of_ble_eq_true rfl)
  rw [lg_entry_eq]
  generalize (lg_sl ([.ref hmo, .int x1, .long x2, .long x4]) ++ List.replicate (9 - (lg_sl ([.ref hmo, .int x1, .long x2, .long x4])).length) Slot.unset).toArray = ls at hl ⊢
  have hl : lv_has ls 9 [(0, .ref hmo), (1, .int x1), (2, .long x2), (4, .long x4)] := hl
  have E0 : En p m c cX6_moved 9 s ([.ref hmo, .int x1, .long x2, .long x4] : List Value).toArray wsX6_moved RX6 meth (some .long) D cy := ⟨⟨hx, hb, hml, hown, hts⟩, hr, hlocks, hB⟩
  unfold fX6_moved at hf
  refine lv_lconst (v := (1 : Int64)) hx hb dX6_moved_0 (by decide) ?_
  refine lv_lstore (lv' := [(6, .long (1 : Int64)), (0, .ref hmo), (1, .int x1), (2, .long x2), (4, .long x4)]) hx hb dX6_moved_1 hl (by decide) rfl (fun ls hl => ?_)
  refine lv_iconst (v := (0 : Int32)) hx hb dX6_moved_3 (by decide) ?_
  refine lv_istore (lv' := [(8, .int (0 : Int32)), (6, .long (1 : Int64)), (0, .ref hmo), (1, .int x1), (2, .long x2), (4, .long x4)]) hx hb dX6_moved_4 hl (by decide) rfl (fun ls hl => ?_)
  refine wX6_moved_L6 E0 N mW mP x1 x2 x4 hP _ (fun x6_4 ls hl hf => ?_) N _ _ _ (lv_sub hl [2, 3, 4, 5, 1, 0] rfl) hf
  refine lv_aload_n hx hb dX6_moved_28 rfl (lv_at hl 0 rfl) ?_
  refine lv_iload_n hx hb dX6_moved_29 rfl (lv_at hl 1 rfl) ?_
  refine lv_lload_n hx hb dX6_moved_30 rfl (lv_at hl 2 rfl) ?_
  refine lv_aload_n hx hb dX6_moved_31 rfl (lv_at hl 0 rfl) ?_
  refine lv_iload_n hx hb dX6_moved_32 rfl (lv_at hl 1 rfl) ?_
  refine lv_lload hx hb dX6_moved_33 (lv_at hl 4 rfl) ?_
  refine lv_lload hx hb dX6_moved_35 (lv_at hl 3 rfl) ?_
  obtain ⟨r_5, h_6, hf⟩ := bind_some hf
  have hP_r_5 : va_P D vwCl [(hmo, .inr (5, [.int mC, .ref hmW, .ref hmP, .ref hmS, .ref hmE, .ref hmI, .ref hmO, .ref hmT, .int mN, .ref hmK, .ref hmF, .ref hmH, .ref hmM, .ref hmD, .ref hmR, .ref hmB])), (hmW, .inl (cy 0, 8, .inl mW)), (hmP, .inl (cy 1, 8, .inr (.inl mP)))] s.heap := hP.sub [0, 1, 2] rfl
  refine cz_l (va_runV (As := [.int x1, .long x6_4, .long x4]) (rest := [.long x2, .int x1, .ref hmo]) ⟨hx, hb, hml, hown, hts⟩ (ctX6_power l D cy N hmo hmW hmP hmS hmE hmI hmO hmT hmK hmF hmH hmM hmD hmR hmB mC mN mW mP x1 x6_4 x4 r_5 h_6) (cwV 3 hts gX6_moved_X6_power rfl rfl rfl (by decide +kernel) ⟨Nat.le_of_ble_eq_true rfl, Nat.le_of_ble_eq_true rfl⟩) (preV_rd (ci := 5) (q0 := 0) [.int x1, .long x6_4, .long x4] hP_r_5 hB rfl rfl) rfl rfl hl.1 rfl (lv_room (Nat.le_of_ble_eq_true rfl)) dX6_moved_37 ⟨Nat.zero_le _, Nat.zero_le _⟩) ?_
  obtain ⟨r_7, h_8, hf⟩ := bind_some hf
  have hP_r_7 : va_P D vwCl [(hmo, .inr (5, [.int mC, .ref hmW, .ref hmP, .ref hmS, .ref hmE, .ref hmI, .ref hmO, .ref hmT, .int mN, .ref hmK, .ref hmF, .ref hmH, .ref hmM, .ref hmD, .ref hmR, .ref hmB])), (hmW, .inl (cy 0, 8, .inl mW)), (hmP, .inl (cy 1, 8, .inr (.inl mP)))] s.heap := hP.sub [0, 1, 2] rfl
  refine cz_l (va_runV (As := [.int x1, .long x2, .long r_5]) (rest := []) ⟨hx, hb, hml, hown, hts⟩ (ctX6_times l D cy N hmo hmW hmP hmS hmE hmI hmO hmT hmK hmF hmH hmM hmD hmR hmB mC mN mW mP x1 x2 r_5 r_7 h_8) (cwV 3 hts gX6_moved_X6_times rfl rfl rfl (by decide +kernel) ⟨Nat.le_of_ble_eq_true rfl, Nat.le_of_ble_eq_true rfl⟩) (preV_rd (ci := 5) (q0 := 0) [.int x1, .long x2, .long r_5] hP_r_7 hB rfl rfl) rfl rfl hl.1 rfl (lv_room (Nat.le_of_ble_eq_true rfl)) dX6_moved_40 ⟨Nat.zero_le _, Nat.zero_le _⟩) ?_
  exact W.lret (v := r_7) hx hb hr (fun t ht hW => ⟨_, rfl, Option.some.inj hf, ht⟩) (fun _ h => absurd h List.not_mem_nil) dX6_moved_43
/-! SumFormsModel.told(IJ)J -/
abbrev rX6_told : Room := { frames := 1, cells := 0, slots := 0, locals := 25 }
theorem mX6_told_0 : Cond.fieldLink RX6 27 "SumFormsModel" "turnsOut" "[Z" ∈ wsX6_told := by decide +kernel
theorem mX6_told_1 : Cond.fieldLink RX6 20 "SumFormsModel" "end" "[J" ∈ wsX6_told := by decide +kernel
theorem mX6_told_2 : Cond.fieldLink RX6 7 "SumFormsModel" "width" "[I" ∈ wsX6_told := by decide +kernel
theorem inX6_told_X6 : ∀ w ∈ u_ws RX6 TX6 16, w ∈ wsX6_told := by decide +kernel
abbrev GX6_told (p : Program) (l : Launch) (e : Env) (s : State) (m : MethodId) (args : Array Value) (below : List Frame) (meth : Method) (c : Code) (r0 : Int64) (fr : JFrame) : Prop := W p l e (headSpec wsX6_told rX6_told).room s m args below meth c s.heap [] 0 0 (MQ below (vp_Sl (fun r => r = r0)) args s 0 0 (fun _ => False)) fr
def fX6_told (N : Nat) (mW : Nat → Int32) (mE : Nat → Int64) (mO : Nat → Int32) (x1 : Int32) (x2 : Int64) : Option (Int64) := (if OOB x1 8 then none else (if (mO x1.toNatClampNeg) = 0 then (if OOB x1 8 then none else (some (x2 ^^^ (mE x1.toNatClampNeg)))) else (if OOB x1 8 then none else ((fX6_turned N x2 (mW x1.toNatClampNeg)).bind (fun r_5 => (if OOB x1 8 then none else (some (r_5 ^^^ (mE x1.toNatClampNeg)))))))))
set_option maxHeartbeats 4000000 in
set_option maxRecDepth 100000 in
theorem ctX6_told (l : Launch) (D : va_G) (cy : Nat → ClassId) (N : Nat) (hmo hmW hmP hmS hmE hmI hmO hmT hmK hmF hmH hmM hmD hmR hmB : Nat) (mC : Int32) (mN : Int32) (mW : Nat → Int32) (mE : Nat → Int64) (mO : Nat → Int32) (x1 : Int32) (x2 : Int64) (r0 : Int64) (hf : fX6_told N mW mE mO x1 x2 = some r0) : Met l yX6_told wsX6_told rX6_told (va_Pc [.ref hmo, .int x1, .long x2] (Rd D cy [(hmo, .inr (5, [.int mC, .ref hmW, .ref hmP, .ref hmS, .ref hmE, .ref hmI, .ref hmO, .ref hmT, .int mN, .ref hmK, .ref hmF, .ref hmH, .ref hmM, .ref hmD, .ref hmR, .ref hmB])), (hmW, .inl (cy 0, 8, .inl mW)), (hmE, .inl (cy 1, 8, .inr (.inl mE))), (hmO, .inl (cy 2, 8, .inl mO))])) (vp_Sl (fun r => r = r0)) 0 0 (fun _ => False) := by
  refine Met.ofW (cc := cX6_told) (maxL := 4) (ret := (some .long)) (by decide) rfl ?_
  intro p e s m args below meth c s₁ B hml hv
  obtain ⟨rfl, hP, hB⟩ := hv
  have hx := B.exec
  have hb := B.bytes
  have hr := B.returns
  have hts := atoms_spec (ws := wsX6_told) B.pre
  have hown : s.vm.findClass RX6 = some m.cls := findClass_of_methodNamed B.named
  have hlocks := B.notSynchronized
  have hK := hB.1
  have hN := hB.2
  have hl := lv_entry ([.ref hmo, .int x1, .long x2]) (n := 4) (Nat.le_of_ble_eq_true rfl)
  rw [lg_entry_eq]
  generalize (lg_sl ([.ref hmo, .int x1, .long x2]) ++ List.replicate (4 - (lg_sl ([.ref hmo, .int x1, .long x2])).length) Slot.unset).toArray = ls at hl ⊢
  have hl : lv_has ls 4 [(0, .ref hmo), (1, .int x1), (2, .long x2)] := hl
  have E0 : En p m c cX6_told 4 s ([.ref hmo, .int x1, .long x2] : List Value).toArray wsX6_told RX6 meth (some .long) D cy := ⟨⟨hx, hb, hml, hown, hts⟩, hr, hlocks, hB⟩
  unfold fX6_told at hf
  refine lv_aload_n hx hb dX6_told_0 rfl (lv_at hl 0 rfl) ?_
  refine va_get (D := D) (ci := 5) (v := .ref hmO) (C := RX6) (T := TX6) (N := 16) hx hb hts inX6_told_X6 hown hK hP 0 rfl rfl 6 (by decide) (hts _ mX6_told_0) (fun _ h9 => h9) rfl dX6_told_1 ?_
  refine lv_iload_n hx hb dX6_told_4 rfl (lv_at hl 1 rfl) ?_
  obtain ⟨b_1, hf⟩ := ite_n hf
  refine va_zald hx hb hK hP 3 2 rfl rfl b_1 dX6_told_5 ?_
  refine lv_if_eq (tgt := 22) hx hb dX6_told_6 (by decide) (fun c_2 => ?_) (fun c_2 => ?_)
  · have hf := ite_t hf c_2
    refine lv_lload_n hx hb dX6_told_22 rfl (lv_at hl 2 rfl) ?_
    refine lv_aload_n hx hb dX6_told_23 rfl (lv_at hl 0 rfl) ?_
    refine va_get (D := D) (ci := 5) (v := .ref hmE) (C := RX6) (T := TX6) (N := 16) hx hb hts inX6_told_X6 hown hK hP 0 rfl rfl 4 (by decide) (hts _ mX6_told_1) (fun _ h9 => h9) rfl dX6_told_24 ?_
    refine lv_iload_n hx hb dX6_told_27 rfl (lv_at hl 1 rfl) ?_
    obtain ⟨b_3, hf⟩ := ite_n hf
    refine va_lald hx hb hK hP 2 1 rfl rfl b_3 dX6_told_28 ?_
    refine lv_lxor hx hb dX6_told_29 ?_
    exact W.lret (v := (x2 ^^^ (mE x1.toNatClampNeg))) hx hb hr (fun t ht hW => ⟨_, rfl, Option.some.inj hf, ht⟩) (fun _ h => absurd h List.not_mem_nil) dX6_told_30
  · have hf := ite_f hf c_2
    refine lv_lload_n hx hb dX6_told_9 rfl (lv_at hl 2 rfl) ?_
    refine lv_aload_n hx hb dX6_told_10 rfl (lv_at hl 0 rfl) ?_
    refine va_get (D := D) (ci := 5) (v := .ref hmW) (C := RX6) (T := TX6) (N := 16) hx hb hts inX6_told_X6 hown hK hP 0 rfl rfl 1 (by decide) (hts _ mX6_told_2) (fun _ h9 => h9) rfl dX6_told_11 ?_
    refine lv_iload_n hx hb dX6_told_14 rfl (lv_at hl 1 rfl) ?_
    obtain ⟨b_4, hf⟩ := ite_n hf
    refine va_iald hx hb hK hP 1 0 rfl rfl b_4 dX6_told_15 ?_
    obtain ⟨r_5, h_6, hf⟩ := bind_some hf
    have hP_r_5 : va_P D vwCl [] s.heap := hP.sub [] rfl
    refine cz_l (va_runS (As := [.long x2, .int (mW x1.toNatClampNeg)]) (rest := []) ⟨hx, hb, hml, hown, hts⟩ (ctX6_turned l D cy N   x2 (mW x1.toNatClampNeg) r_5 h_6) (va_cwS 2 hts gX6_told_X6_turned rfl rfl rfl (by decide +kernel) ⟨Nat.le_of_ble_eq_true rfl, Nat.le_of_ble_eq_true rfl⟩) (preS_rd [.long x2, .int (mW x1.toNatClampNeg)] hP_r_5 hB) rfl rfl hl.1 rfl (lv_room (Nat.le_of_ble_eq_true rfl)) dX6_told_16 ⟨Nat.zero_le _, Nat.zero_le _⟩) ?_
    refine lv_goto (tgt := 23) hx hb dX6_told_19 (by decide) ?_
    refine lv_aload_n hx hb dX6_told_23 rfl (lv_at hl 0 rfl) ?_
    refine va_get (D := D) (ci := 5) (v := .ref hmE) (C := RX6) (T := TX6) (N := 16) hx hb hts inX6_told_X6 hown hK hP 0 rfl rfl 4 (by decide) (hts _ mX6_told_1) (fun _ h9 => h9) rfl dX6_told_24 ?_
    refine lv_iload_n hx hb dX6_told_27 rfl (lv_at hl 1 rfl) ?_
    obtain ⟨b_7, hf⟩ := ite_n hf
    refine va_lald hx hb hK hP 2 1 rfl rfl b_7 dX6_told_28 ?_
    refine lv_lxor hx hb dX6_told_29 ?_
    exact W.lret (v := (r_5 ^^^ (mE x1.toNatClampNeg))) hx hb hr (fun t ht hW => ⟨_, rfl, Option.some.inj hf, ht⟩) (fun _ h => absurd h List.not_mem_nil) dX6_told_30
/-! SumFormsModel.changed(IJJI)J -/
abbrev rX6_changed : Room := { frames := 4, cells := 0, slots := 0, locals := 113 }
theorem mX6_changed_0 : Cond.constantLong RX6 91 (-1) ∈ wsX6_changed := by decide +kernel
abbrev GX6_changed (p : Program) (l : Launch) (e : Env) (s : State) (m : MethodId) (args : Array Value) (below : List Frame) (meth : Method) (c : Code) (r0 : Int64) (fr : JFrame) : Prop := W p l e (headSpec wsX6_changed rX6_changed).room s m args below meth c s.heap [] 0 0 (MQ below (vp_Sl (fun r => r = r0)) args s 0 0 (fun _ => False)) fr
def fX6_changed (N : Nat) (mC : Int32) (mW : Nat → Int32) (mP : Nat → Int64) (mE : Nat → Int64) (mI : Nat → Int32) (mO : Nat → Int32) (x1 : Int32) (x2 : Int64) (x4 : Int64) (x6 : Int32) : Option (Int64) := ((fX6_isSum N mC mW x1 x2).bind (fun r_1 => (if r_1 = 0 then (some (-1 : Int64)) else ((fX6_isFar N x4).bind (fun r_4 => (if r_4 = 0 then (some (-1 : Int64)) else (if x6 < 0 then (some (-1 : Int64)) else (if x6 ≤ (255 : Int32) then ((fX6_register N mW mE mO x1 x2).bind (fun r_9 => ((fX6_taken N mW mP mI x1 (0 : Int64) x6).bind (fun r_11 => ((fX6_moved N mW mP x1 r_11 x4).bind (fun r_13 => ((fX6_told N mW mE mO x1 (r_9 ^^^ r_13)).bind (fun r_15 => (some r_15))))))))) else (some (-1 : Int64))))))))))
set_option maxHeartbeats 4000000 in
set_option maxRecDepth 100000 in
theorem ctX6_changed (l : Launch) (D : va_G) (cy : Nat → ClassId) (N : Nat) (hmo hmW hmP hmS hmE hmI hmO hmT hmK hmF hmH hmM hmD hmR hmB : Nat) (mC : Int32) (mN : Int32) (mW : Nat → Int32) (mP : Nat → Int64) (mE : Nat → Int64) (mI : Nat → Int32) (mO : Nat → Int32) (x1 : Int32) (x2 : Int64) (x4 : Int64) (x6 : Int32) (r0 : Int64) (hf : fX6_changed N mC mW mP mE mI mO x1 x2 x4 x6 = some r0) : Met l yX6_changed wsX6_changed rX6_changed (va_Pc [.ref hmo, .int x1, .long x2, .long x4, .int x6] (Rd D cy [(hmo, .inr (5, [.int mC, .ref hmW, .ref hmP, .ref hmS, .ref hmE, .ref hmI, .ref hmO, .ref hmT, .int mN, .ref hmK, .ref hmF, .ref hmH, .ref hmM, .ref hmD, .ref hmR, .ref hmB])), (hmW, .inl (cy 0, 8, .inl mW)), (hmP, .inl (cy 1, 8, .inr (.inl mP))), (hmE, .inl (cy 1, 8, .inr (.inl mE))), (hmI, .inl (cy 2, 8, .inl mI)), (hmO, .inl (cy 2, 8, .inl mO))])) (vp_Sl (fun r => r = r0)) 0 0 (fun _ => False) := by
  refine Met.ofW (cc := cX6_changed) (maxL := 7) (ret := (some .long)) (by decide) rfl ?_
  intro p e s m args below meth c s₁ B hml hv
  obtain ⟨rfl, hP, hB⟩ := hv
  have hx := B.exec
  have hb := B.bytes
  have hr := B.returns
  have hts := atoms_spec (ws := wsX6_changed) B.pre
  have hown : s.vm.findClass RX6 = some m.cls := findClass_of_methodNamed B.named
  have hlocks := B.notSynchronized
  have hK := hB.1
  have hN := hB.2
  have hl := lv_entry ([.ref hmo, .int x1, .long x2, .long x4, .int x6]) (n := 7) (Nat.le_of_ble_eq_true rfl)
  rw [lg_entry_eq]
  generalize (lg_sl ([.ref hmo, .int x1, .long x2, .long x4, .int x6]) ++ List.replicate (7 - (lg_sl ([.ref hmo, .int x1, .long x2, .long x4, .int x6])).length) Slot.unset).toArray = ls at hl ⊢
  have hl : lv_has ls 7 [(0, .ref hmo), (1, .int x1), (2, .long x2), (4, .long x4), (6, .int x6)] := hl
  have E0 : En p m c cX6_changed 7 s ([.ref hmo, .int x1, .long x2, .long x4, .int x6] : List Value).toArray wsX6_changed RX6 meth (some .long) D cy := ⟨⟨hx, hb, hml, hown, hts⟩, hr, hlocks, hB⟩
  unfold fX6_changed at hf
  refine lv_aload_n hx hb dX6_changed_0 rfl (lv_at hl 0 rfl) ?_
  refine lv_iload_n hx hb dX6_changed_1 rfl (lv_at hl 1 rfl) ?_
  refine lv_lload_n hx hb dX6_changed_2 rfl (lv_at hl 2 rfl) ?_
  obtain ⟨r_1, h_2, hf⟩ := bind_some hf
  have hP_r_1 : va_P D vwCl [(hmo, .inr (5, [.int mC, .ref hmW, .ref hmP, .ref hmS, .ref hmE, .ref hmI, .ref hmO, .ref hmT, .int mN, .ref hmK, .ref hmF, .ref hmH, .ref hmM, .ref hmD, .ref hmR, .ref hmB])), (hmW, .inl (cy 0, 8, .inl mW))] s.heap := hP.sub [0, 1] rfl
  refine cz_i (va_runV (As := [.int x1, .long x2]) (rest := []) ⟨hx, hb, hml, hown, hts⟩ (ctX6_isSum l D cy N hmo hmW hmP hmS hmE hmI hmO hmT hmK hmF hmH hmM hmD hmR hmB mC mN mW x1 x2 r_1 h_2) (cwV 2 hts gX6_changed_X6_isSum rfl rfl rfl (by decide +kernel) ⟨Nat.le_of_ble_eq_true rfl, Nat.le_of_ble_eq_true rfl⟩) (preV_rd (ci := 5) (q0 := 0) [.int x1, .long x2] hP_r_1 hB rfl rfl) rfl rfl hl.1 rfl (lv_room (Nat.le_of_ble_eq_true rfl)) dX6_changed_3 ⟨Nat.zero_le _, Nat.zero_le _⟩) ?_
  refine lv_if_eq (tgt := 30) hx hb dX6_changed_6 (by decide) (fun c_3 => ?_) (fun c_3 => ?_)
  · have hf := ite_t hf c_3
    refine lv_ldc2 (v := (-1 : Int64)) hx hb hown (hts _ mX6_changed_0) dX6_changed_30 ?_
    exact W.lret (v := (-1 : Int64)) hx hb hr (fun t ht hW => ⟨_, rfl, Option.some.inj hf, ht⟩) (fun _ h => absurd h List.not_mem_nil) dX6_changed_33
  · have hf := ite_f hf c_3
    refine lv_lload hx hb dX6_changed_9 (lv_at hl 3 rfl) ?_
    obtain ⟨r_4, h_5, hf⟩ := bind_some hf
    have hP_r_4 : va_P D vwCl [] s.heap := hP.sub [] rfl
    refine cz_i (va_runS (As := [.long x4]) (rest := []) ⟨hx, hb, hml, hown, hts⟩ (ctX6_isFar l D cy N   x4 r_4 h_5) (va_cwS 1 hts gX6_changed_X6_isFar rfl rfl rfl (by decide +kernel) ⟨Nat.le_of_ble_eq_true rfl, Nat.le_of_ble_eq_true rfl⟩) (preS_rd [.long x4] hP_r_4 hB) rfl rfl hl.1 rfl (lv_room (Nat.le_of_ble_eq_true rfl)) dX6_changed_11 ⟨Nat.zero_le _, Nat.zero_le _⟩) ?_
    refine lv_if_eq (tgt := 30) hx hb dX6_changed_14 (by decide) (fun c_6 => ?_) (fun c_6 => ?_)
    · have hf := ite_t hf c_6
      refine lv_ldc2 (v := (-1 : Int64)) hx hb hown (hts _ mX6_changed_0) dX6_changed_30 ?_
      exact W.lret (v := (-1 : Int64)) hx hb hr (fun t ht hW => ⟨_, rfl, Option.some.inj hf, ht⟩) (fun _ h => absurd h List.not_mem_nil) dX6_changed_33
    · have hf := ite_f hf c_6
      refine lv_iload hx hb dX6_changed_17 (lv_at hl 4 rfl) ?_
      refine lv_if_lt (tgt := 30) hx hb dX6_changed_19 (by decide) (fun c_7 => ?_) (fun c_7 => ?_)
      · have hf := ite_t hf c_7
        refine lv_ldc2 (v := (-1 : Int64)) hx hb hown (hts _ mX6_changed_0) dX6_changed_30 ?_
        exact W.lret (v := (-1 : Int64)) hx hb hr (fun t ht hW => ⟨_, rfl, Option.some.inj hf, ht⟩) (fun _ h => absurd h List.not_mem_nil) dX6_changed_33
      · have hf := ite_f hf c_7
        refine lv_iload hx hb dX6_changed_22 (lv_at hl 4 rfl) ?_
        refine lv_sipush (v := (255 : Int32)) hx hb dX6_changed_24 (by decide) ?_
        refine lv_icmp_le (tgt := 34) hx hb dX6_changed_27 (by decide) (fun c_8 => ?_) (fun c_8 => ?_)
        · have hf := ite_t hf c_8
          refine lv_aload_n hx hb dX6_changed_34 rfl (lv_at hl 0 rfl) ?_
          refine lv_iload_n hx hb dX6_changed_35 rfl (lv_at hl 1 rfl) ?_
          refine lv_aload_n hx hb dX6_changed_36 rfl (lv_at hl 0 rfl) ?_
          refine lv_iload_n hx hb dX6_changed_37 rfl (lv_at hl 1 rfl) ?_
          refine lv_lload_n hx hb dX6_changed_38 rfl (lv_at hl 2 rfl) ?_
          obtain ⟨r_9, h_10, hf⟩ := bind_some hf
          have hP_r_9 : va_P D vwCl [(hmo, .inr (5, [.int mC, .ref hmW, .ref hmP, .ref hmS, .ref hmE, .ref hmI, .ref hmO, .ref hmT, .int mN, .ref hmK, .ref hmF, .ref hmH, .ref hmM, .ref hmD, .ref hmR, .ref hmB])), (hmW, .inl (cy 0, 8, .inl mW)), (hmE, .inl (cy 1, 8, .inr (.inl mE))), (hmO, .inl (cy 2, 8, .inl mO))] s.heap := hP.sub [0, 1, 3, 5] rfl
          refine cz_l (va_runV (As := [.int x1, .long x2]) (rest := [.int x1, .ref hmo]) ⟨hx, hb, hml, hown, hts⟩ (ctX6_register l D cy N hmo hmW hmP hmS hmE hmI hmO hmT hmK hmF hmH hmM hmD hmR hmB mC mN mW mE mO x1 x2 r_9 h_10) (cwV 2 hts gX6_changed_X6_register rfl rfl rfl (by decide +kernel) ⟨Nat.le_of_ble_eq_true rfl, Nat.le_of_ble_eq_true rfl⟩) (preV_rd (ci := 5) (q0 := 0) [.int x1, .long x2] hP_r_9 hB rfl rfl) rfl rfl hl.1 rfl (lv_room (Nat.le_of_ble_eq_true rfl)) dX6_changed_39 ⟨Nat.zero_le _, Nat.zero_le _⟩) ?_
          refine lv_aload_n hx hb dX6_changed_42 rfl (lv_at hl 0 rfl) ?_
          refine lv_iload_n hx hb dX6_changed_43 rfl (lv_at hl 1 rfl) ?_
          refine lv_aload_n hx hb dX6_changed_44 rfl (lv_at hl 0 rfl) ?_
          refine lv_iload_n hx hb dX6_changed_45 rfl (lv_at hl 1 rfl) ?_
          refine lv_lconst (v := (0 : Int64)) hx hb dX6_changed_46 (by decide) ?_
          refine lv_iload hx hb dX6_changed_47 (lv_at hl 4 rfl) ?_
          obtain ⟨r_11, h_12, hf⟩ := bind_some hf
          have hP_r_11 : va_P D vwCl [(hmo, .inr (5, [.int mC, .ref hmW, .ref hmP, .ref hmS, .ref hmE, .ref hmI, .ref hmO, .ref hmT, .int mN, .ref hmK, .ref hmF, .ref hmH, .ref hmM, .ref hmD, .ref hmR, .ref hmB])), (hmW, .inl (cy 0, 8, .inl mW)), (hmP, .inl (cy 1, 8, .inr (.inl mP))), (hmI, .inl (cy 2, 8, .inl mI))] s.heap := hP.sub [0, 1, 2, 4] rfl
          refine cz_l (va_runV (As := [.int x1, .long (0 : Int64), .int x6]) (rest := [.int x1, .ref hmo, .long r_9, .int x1, .ref hmo]) ⟨hx, hb, hml, hown, hts⟩ (ctX6_taken l D cy N hmo hmW hmP hmS hmE hmI hmO hmT hmK hmF hmH hmM hmD hmR hmB mC mN mW mP mI x1 (0 : Int64) x6 r_11 h_12) (cwV 3 hts gX6_changed_X6_taken rfl rfl rfl (by decide +kernel) ⟨Nat.le_of_ble_eq_true rfl, Nat.le_of_ble_eq_true rfl⟩) (preV_rd (ci := 5) (q0 := 0) [.int x1, .long (0 : Int64), .int x6] hP_r_11 hB rfl rfl) rfl rfl hl.1 rfl (lv_room (Nat.le_of_ble_eq_true rfl)) dX6_changed_49 ⟨Nat.zero_le _, Nat.zero_le _⟩) ?_
          refine lv_lload hx hb dX6_changed_52 (lv_at hl 3 rfl) ?_
          obtain ⟨r_13, h_14, hf⟩ := bind_some hf
          have hP_r_13 : va_P D vwCl [(hmo, .inr (5, [.int mC, .ref hmW, .ref hmP, .ref hmS, .ref hmE, .ref hmI, .ref hmO, .ref hmT, .int mN, .ref hmK, .ref hmF, .ref hmH, .ref hmM, .ref hmD, .ref hmR, .ref hmB])), (hmW, .inl (cy 0, 8, .inl mW)), (hmP, .inl (cy 1, 8, .inr (.inl mP)))] s.heap := hP.sub [0, 1, 2] rfl
          refine cz_l (va_runV (As := [.int x1, .long r_11, .long x4]) (rest := [.long r_9, .int x1, .ref hmo]) ⟨hx, hb, hml, hown, hts⟩ (ctX6_moved l D cy N hmo hmW hmP hmS hmE hmI hmO hmT hmK hmF hmH hmM hmD hmR hmB mC mN mW mP x1 r_11 x4 r_13 h_14) (cwV 3 hts gX6_changed_X6_moved rfl rfl rfl (by decide +kernel) ⟨Nat.le_of_ble_eq_true rfl, Nat.le_of_ble_eq_true rfl⟩) (preV_rd (ci := 5) (q0 := 0) [.int x1, .long r_11, .long x4] hP_r_13 hB rfl rfl) rfl rfl hl.1 rfl (lv_room (Nat.le_of_ble_eq_true rfl)) dX6_changed_54 ⟨Nat.zero_le _, Nat.zero_le _⟩) ?_
          refine lv_lxor hx hb dX6_changed_57 ?_
          obtain ⟨r_15, h_16, hf⟩ := bind_some hf
          have hP_r_15 : va_P D vwCl [(hmo, .inr (5, [.int mC, .ref hmW, .ref hmP, .ref hmS, .ref hmE, .ref hmI, .ref hmO, .ref hmT, .int mN, .ref hmK, .ref hmF, .ref hmH, .ref hmM, .ref hmD, .ref hmR, .ref hmB])), (hmW, .inl (cy 0, 8, .inl mW)), (hmE, .inl (cy 1, 8, .inr (.inl mE))), (hmO, .inl (cy 2, 8, .inl mO))] s.heap := hP.sub [0, 1, 3, 5] rfl
          refine cz_l (va_runV (As := [.int x1, .long (r_9 ^^^ r_13)]) (rest := []) ⟨hx, hb, hml, hown, hts⟩ (ctX6_told l D cy N hmo hmW hmP hmS hmE hmI hmO hmT hmK hmF hmH hmM hmD hmR hmB mC mN mW mE mO x1 (r_9 ^^^ r_13) r_15 h_16) (cwV 2 hts gX6_changed_X6_told rfl rfl rfl (by decide +kernel) ⟨Nat.le_of_ble_eq_true rfl, Nat.le_of_ble_eq_true rfl⟩) (preV_rd (ci := 5) (q0 := 0) [.int x1, .long (r_9 ^^^ r_13)] hP_r_15 hB rfl rfl) rfl rfl hl.1 rfl (lv_room (Nat.le_of_ble_eq_true rfl)) dX6_changed_58 ⟨Nat.zero_le _, Nat.zero_le _⟩) ?_
          exact W.lret (v := r_15) hx hb hr (fun t ht hW => ⟨_, rfl, Option.some.inj hf, ht⟩) (fun _ h => absurd h List.not_mem_nil) dX6_changed_61
        · have hf := ite_f hf c_8
          refine lv_ldc2 (v := (-1 : Int64)) hx hb hown (hts _ mX6_changed_0) dX6_changed_30 ?_
          exact W.lret (v := (-1 : Int64)) hx hb hr (fun t ht hW => ⟨_, rfl, Option.some.inj hf, ht⟩) (fun _ h => absurd h List.not_mem_nil) dX6_changed_33
/-! SumFormsModel.clear()V -/
abbrev rX6_clear : Room := { frames := 0, cells := 0, slots := 0, locals := 0 }
theorem mX6_clear_0 : Cond.constant RX6 51 (65536) ∈ wsX6_clear := by decide +kernel
theorem mX6_clear_1 : Cond.fieldLink RX6 52 "SumFormsModel" "table" "[J" ∈ wsX6_clear := by decide +kernel
theorem inX6_clear_X6 : ∀ w ∈ u_ws RX6 TX6 16, w ∈ wsX6_clear := by decide +kernel
abbrev GX6_clear (p : Program) (l : Launch) (e : Env) (s : State) (m : MethodId) (args : Array Value) (below : List Frame) (meth : Method) (c : Code) (D : va_G) (cy : Nat → ClassId) (A : Nat → Prop) (hmo : Nat) (hmW : Nat) (hmP : Nat) (hmS : Nat) (hmE : Nat) (hmI : Nat) (hmO : Nat) (hmT : Nat) (hmK : Nat) (hmF : Nat) (hmH : Nat) (hmM : Nat) (hmD : Nat) (hmR : Nat) (hmB : Nat) (mC : Int32) (mN : Int32) (r0 : (Nat → Int64)) (H : Heap) (locs : List Loc) (fr : JFrame) : Prop := W p l e (headSpec wsX6_clear rX6_clear).room s m args below meth c H locs 0 0 (MQ below (Qwv D A [(hmo, .inr (5, [.int mC, .ref hmW, .ref hmP, .ref hmS, .ref hmE, .ref hmI, .ref hmO, .ref hmT, .int mN, .ref hmK, .ref hmF, .ref hmH, .ref hmM, .ref hmD, .ref hmR, .ref hmB])), (hmB, .inl (cy 1, 65536, .inr (.inl r0)))]) args s 0 0 A) fr
def fX6_clear_B2 (N : Nat)  (self : (Nat → Int64) → Int32 → Option ((Nat → Int64))) (k : (Nat → Int64) → Option ((Nat → Int64))) (mB : Nat → Int64) (x1 : Int32) : Option ((Nat → Int64)) := (if (65536 : Int32) ≤ x1 then (k mB) else (if OOB x1 65536 then none else (self (vp_updL mB x1.toNatClampNeg (0 : Int64)) (x1 + (1 : Int32)))))
def fX6_clear_L2 (N : Nat)  (k : (Nat → Int64) → Option ((Nat → Int64))) : Nat → (Nat → Int64) → Int32 → Option ((Nat → Int64))
  | 0 => fun _ _ => none
  | n + 1 => fun mB x1 => fX6_clear_B2 N (fX6_clear_L2 N k n) k mB x1
def fX6_clear (N : Nat) (mB : Nat → Int64)  : Option ((Nat → Int64)) := (fX6_clear_L2 N (fun mB_5 => (some mB_5)) N mB (0 : Int32))
set_option maxHeartbeats 4000000 in
set_option maxRecDepth 100000 in
theorem wX6_clear_B2 {p : Program} {l : Launch} {e : Env} {s : State} {m : MethodId} {args : Array Value} {below : List Frame} {meth : Method} {c : Code} {D : va_G} {cy : Nat → ClassId} {A : Nat → Prop} {hmo hmW hmP hmS hmE hmI hmO hmT hmK hmF hmH hmM hmD hmR hmB : Nat} {mC : Int32} {mN : Int32} {r0 : (Nat → Int64)} (E0 : En p m c cX6_clear 2 s args wsX6_clear RX6 meth none D cy) (N : Nat)  (hA : ∀ q, s.heap.size ≤ q → A q) (self : (Nat → Int64) → Int32 → Option ((Nat → Int64))) (hself : ∀ (mB : Nat → Int64) (x1 : Int32) (H : Heap) (locs : List Loc) (ls : Array Slot), va_P D vwCl [(hmo, .inr (5, [.int mC, .ref hmW, .ref hmP, .ref hmS, .ref hmE, .ref hmI, .ref hmO, .ref hmT, .int mN, .ref hmK, .ref hmF, .ref hmH, .ref hmM, .ref hmD, .ref hmR, .ref hmB])), (hmB, .inl (cy 1, 65536, .inr (.inl mB)))] H → va_D A [(hmo, .inr (5, [.int mC, .ref hmW, .ref hmP, .ref hmS, .ref hmE, .ref hmI, .ref hmO, .ref hmT, .int mN, .ref hmK, .ref hmF, .ref hmH, .ref hmM, .ref hmD, .ref hmR, .ref hmB])), (hmB, .inl (cy 1, 65536, .inr (.inl mB)))] → va_S A s.heap H locs → lv_has ls 2 [(0, .ref hmo), (1, .int x1)] → self mB x1 = some r0 → GX6_clear p l e s m args below meth c D cy A hmo hmW hmP hmS hmE hmI hmO hmT hmK hmF hmH hmM hmD hmR hmB mC mN r0 H locs (F0 m 2 ls [])) (k : (Nat → Int64) → Option ((Nat → Int64))) (hk : ∀ (mB : Nat → Int64) (H : Heap) (locs : List Loc) (ls : Array Slot), va_P D vwCl [(hmo, .inr (5, [.int mC, .ref hmW, .ref hmP, .ref hmS, .ref hmE, .ref hmI, .ref hmO, .ref hmT, .int mN, .ref hmK, .ref hmF, .ref hmH, .ref hmM, .ref hmD, .ref hmR, .ref hmB])), (hmB, .inl (cy 1, 65536, .inr (.inl mB)))] H → va_D A [(hmo, .inr (5, [.int mC, .ref hmW, .ref hmP, .ref hmS, .ref hmE, .ref hmI, .ref hmO, .ref hmT, .int mN, .ref hmK, .ref hmF, .ref hmH, .ref hmM, .ref hmD, .ref hmR, .ref hmB])), (hmB, .inl (cy 1, 65536, .inr (.inl mB)))] → va_S A s.heap H locs → lv_has ls 2 [] → k mB = some r0 → GX6_clear p l e s m args below meth c D cy A hmo hmW hmP hmS hmE hmI hmO hmT hmK hmF hmH hmM hmD hmR hmB mC mN r0 H locs (F0 m 21 ls [])) : ∀ (mB : Nat → Int64) (x1 : Int32) (H : Heap) (locs : List Loc) (ls : Array Slot), va_P D vwCl [(hmo, .inr (5, [.int mC, .ref hmW, .ref hmP, .ref hmS, .ref hmE, .ref hmI, .ref hmO, .ref hmT, .int mN, .ref hmK, .ref hmF, .ref hmH, .ref hmM, .ref hmD, .ref hmR, .ref hmB])), (hmB, .inl (cy 1, 65536, .inr (.inl mB)))] H → va_D A [(hmo, .inr (5, [.int mC, .ref hmW, .ref hmP, .ref hmS, .ref hmE, .ref hmI, .ref hmO, .ref hmT, .int mN, .ref hmK, .ref hmF, .ref hmH, .ref hmM, .ref hmD, .ref hmR, .ref hmB])), (hmB, .inl (cy 1, 65536, .inr (.inl mB)))] → va_S A s.heap H locs → lv_has ls 2 [(0, .ref hmo), (1, .int x1)] → fX6_clear_B2 N self k mB x1 = some r0 → GX6_clear p l e s m args below meth c D cy A hmo hmW hmP hmS hmE hmI hmO hmT hmK hmF hmH hmM hmD hmR hmB mC mN r0 H locs (F0 m 2 ls []) := by
  obtain ⟨⟨hx, hb, hml, hown, hts⟩, hr, hlocks, hB⟩ := id E0
  have hK := hB.1
  have hN := hB.2
  intro mB x1 H locs ls hP hD hS hl hf
  unfold fX6_clear_B2 at hf
  refine lv_iload_n hx hb dX6_clear_2 rfl (lv_at hl 1 rfl) ?_
  refine lv_ldc (v := (65536 : Int32)) hx hb hown (hts _ mX6_clear_0) dX6_clear_3 ?_
  refine lv_icmp_ge (tgt := 21) hx hb dX6_clear_5 (by decide) (fun c_1 => ?_) (fun c_1 => ?_)
  · have hf := ite_t hf c_1
    exact hk _ _ _ _ hP hD hS (lv_sub hl [] rfl) hf
  · have hf := ite_f hf c_1
    refine lv_aload_n hx hb dX6_clear_8 rfl (lv_at hl 0 rfl) ?_
    refine va_get (D := D) (ci := 5) (v := .ref hmB) (C := RX6) (T := TX6) (N := 16) hx hb hts inX6_clear_X6 hown hK hP 0 rfl rfl 15 (by decide) (hts _ mX6_clear_1) (fun _ h9 => h9) rfl dX6_clear_9 ?_
    refine lv_iload_n hx hb dX6_clear_12 rfl (lv_at hl 1 rfl) ?_
    refine lv_lconst (v := (0 : Int64)) hx hb dX6_clear_13 (by decide) ?_
    obtain ⟨b_2, hf⟩ := ite_n hf
    refine va_last hx hb hK hP hD hS 1 1 rfl rfl b_2 dX6_clear_14 (fun H3 locs4 hP hD hS => ?_)
    have hP : va_P D vwCl [(hmo, .inr (5, [.int mC, .ref hmW, .ref hmP, .ref hmS, .ref hmE, .ref hmI, .ref hmO, .ref hmT, .int mN, .ref hmK, .ref hmF, .ref hmH, .ref hmM, .ref hmD, .ref hmR, .ref hmB])), (hmB, .inl (cy 1, 65536, .inr (.inl (vp_updL mB x1.toNatClampNeg (0 : Int64)))))] H3 := hP
    have hD : va_D A [(hmo, .inr (5, [.int mC, .ref hmW, .ref hmP, .ref hmS, .ref hmE, .ref hmI, .ref hmO, .ref hmT, .int mN, .ref hmK, .ref hmF, .ref hmH, .ref hmM, .ref hmD, .ref hmR, .ref hmB])), (hmB, .inl (cy 1, 65536, .inr (.inl (vp_updL mB x1.toNatClampNeg (0 : Int64)))))] := hD
    refine lv_iinc (v := (x1 + (1 : Int32))) (lv' := [(1, .int (x1 + (1 : Int32))), (0, .ref hmo)]) hx hb dX6_clear_15 hl (k := 1) rfl rfl (by decide) rfl (fun ls hl => ?_)
    refine lv_goto (tgt := 2) hx hb dX6_clear_18 (by decide) ?_
    exact hself _ _ _ _ _ hP hD hS (lv_sub hl [1, 0] rfl) hf
theorem wX6_clear_L2 {p : Program} {l : Launch} {e : Env} {s : State} {m : MethodId} {args : Array Value} {below : List Frame} {meth : Method} {c : Code} {D : va_G} {cy : Nat → ClassId} {A : Nat → Prop} {hmo hmW hmP hmS hmE hmI hmO hmT hmK hmF hmH hmM hmD hmR hmB : Nat} {mC : Int32} {mN : Int32} {r0 : (Nat → Int64)} (E0 : En p m c cX6_clear 2 s args wsX6_clear RX6 meth none D cy) (N : Nat)  (hA : ∀ q, s.heap.size ≤ q → A q) (k : (Nat → Int64) → Option ((Nat → Int64))) (hk : ∀ (mB : Nat → Int64) (H : Heap) (locs : List Loc) (ls : Array Slot), va_P D vwCl [(hmo, .inr (5, [.int mC, .ref hmW, .ref hmP, .ref hmS, .ref hmE, .ref hmI, .ref hmO, .ref hmT, .int mN, .ref hmK, .ref hmF, .ref hmH, .ref hmM, .ref hmD, .ref hmR, .ref hmB])), (hmB, .inl (cy 1, 65536, .inr (.inl mB)))] H → va_D A [(hmo, .inr (5, [.int mC, .ref hmW, .ref hmP, .ref hmS, .ref hmE, .ref hmI, .ref hmO, .ref hmT, .int mN, .ref hmK, .ref hmF, .ref hmH, .ref hmM, .ref hmD, .ref hmR, .ref hmB])), (hmB, .inl (cy 1, 65536, .inr (.inl mB)))] → va_S A s.heap H locs → lv_has ls 2 [] → k mB = some r0 → GX6_clear p l e s m args below meth c D cy A hmo hmW hmP hmS hmE hmI hmO hmT hmK hmF hmH hmM hmD hmR hmB mC mN r0 H locs (F0 m 21 ls [])) : ∀ (n : Nat), ∀ (mB : Nat → Int64) (x1 : Int32) (H : Heap) (locs : List Loc) (ls : Array Slot), va_P D vwCl [(hmo, .inr (5, [.int mC, .ref hmW, .ref hmP, .ref hmS, .ref hmE, .ref hmI, .ref hmO, .ref hmT, .int mN, .ref hmK, .ref hmF, .ref hmH, .ref hmM, .ref hmD, .ref hmR, .ref hmB])), (hmB, .inl (cy 1, 65536, .inr (.inl mB)))] H → va_D A [(hmo, .inr (5, [.int mC, .ref hmW, .ref hmP, .ref hmS, .ref hmE, .ref hmI, .ref hmO, .ref hmT, .int mN, .ref hmK, .ref hmF, .ref hmH, .ref hmM, .ref hmD, .ref hmR, .ref hmB])), (hmB, .inl (cy 1, 65536, .inr (.inl mB)))] → va_S A s.heap H locs → lv_has ls 2 [(0, .ref hmo), (1, .int x1)] → fX6_clear_L2 N k n mB x1 = some r0 → GX6_clear p l e s m args below meth c D cy A hmo hmW hmP hmS hmE hmI hmO hmT hmK hmF hmH hmM hmD hmR hmB mC mN r0 H locs (F0 m 2 ls []) := by
  intro n
  induction n with
  | zero => intro mB x1 H locs ls hP hD hS hl hf; cases hf
  | succ n ih => exact wX6_clear_B2 E0 N hA _ ih k hk
set_option maxHeartbeats 4000000 in
set_option maxRecDepth 100000 in
theorem ctX6_clear (l : Launch) (D : va_G) (cy : Nat → ClassId) (N : Nat) (hmo hmW hmP hmS hmE hmI hmO hmT hmK hmF hmH hmM hmD hmR hmB : Nat) (sz : Nat) (mC : Int32) (mN : Int32) (mB : Nat → Int64)  (r0 : (Nat → Int64)) (hf : fX6_clear N mB = some r0) : Met l yX6_clear wsX6_clear rX6_clear (va_Pc [.ref hmo] (Wr D cy [(hmo, .inr (5, [.int mC, .ref hmW, .ref hmP, .ref hmS, .ref hmE, .ref hmI, .ref hmO, .ref hmT, .int mN, .ref hmK, .ref hmF, .ref hmH, .ref hmM, .ref hmD, .ref hmR, .ref hmB])), (hmB, .inl (cy 1, 65536, .inr (.inl mB)))] sz)) (Qwv D (va_A [(hmo, .inr (5, [.int mC, .ref hmW, .ref hmP, .ref hmS, .ref hmE, .ref hmI, .ref hmO, .ref hmT, .int mN, .ref hmK, .ref hmF, .ref hmH, .ref hmM, .ref hmD, .ref hmR, .ref hmB])), (hmB, .inl (cy 1, 65536, .inr (.inl mB)))] sz) [(hmo, .inr (5, [.int mC, .ref hmW, .ref hmP, .ref hmS, .ref hmE, .ref hmI, .ref hmO, .ref hmT, .int mN, .ref hmK, .ref hmF, .ref hmH, .ref hmM, .ref hmD, .ref hmR, .ref hmB])), (hmB, .inl (cy 1, 65536, .inr (.inl r0)))]) 0 0 (va_A [(hmo, .inr (5, [.int mC, .ref hmW, .ref hmP, .ref hmS, .ref hmE, .ref hmI, .ref hmO, .ref hmT, .int mN, .ref hmK, .ref hmF, .ref hmH, .ref hmM, .ref hmD, .ref hmR, .ref hmB])), (hmB, .inl (cy 1, 65536, .inr (.inl mB)))] sz) := by
  refine Met.ofW (cc := cX6_clear) (maxL := 2) (ret := none) (by decide) rfl ?_
  intro p e s m args below meth c s₁ B hml hv
  obtain ⟨rfl, hsz, hP, hD0, hB⟩ := hv
  have hx := B.exec
  have hb := B.bytes
  have hr := B.returns
  have hts := atoms_spec (ws := wsX6_clear) B.pre
  have hown : s.vm.findClass RX6 = some m.cls := findClass_of_methodNamed B.named
  have hlocks := B.notSynchronized
  have hK := hB.1
  have hN := hB.2
  subst hsz
  have hD := hD0.self (sz := s.heap.size)
  have hA : ∀ q : Nat, s.heap.size ≤ q → va_A [(hmo, .inr (5, [.int mC, .ref hmW, .ref hmP, .ref hmS, .ref hmE, .ref hmI, .ref hmO, .ref hmT, .int mN, .ref hmK, .ref hmF, .ref hmH, .ref hmM, .ref hmD, .ref hmR, .ref hmB])), (hmB, .inl (cy 1, 65536, .inr (.inl mB)))] s.heap.size q := fun q h => Or.inr h
  generalize va_A [(hmo, .inr (5, [.int mC, .ref hmW, .ref hmP, .ref hmS, .ref hmE, .ref hmI, .ref hmO, .ref hmT, .int mN, .ref hmK, .ref hmF, .ref hmH, .ref hmM, .ref hmD, .ref hmR, .ref hmB])), (hmB, .inl (cy 1, 65536, .inr (.inl mB)))] s.heap.size = A at hD hA ⊢
  have hS : va_S A s.heap s.heap [] := va_S.rf
  have hl := lv_entry ([.ref hmo]) (n := 2) (Nat.le_of_ble_eq_true rfl)
  rw [lg_entry_eq]
  generalize (lg_sl ([.ref hmo]) ++ List.replicate (2 - (lg_sl ([.ref hmo])).length) Slot.unset).toArray = ls at hl ⊢
  have hl : lv_has ls 2 [(0, .ref hmo)] := hl
  have E0 : En p m c cX6_clear 2 s ([.ref hmo] : List Value).toArray wsX6_clear RX6 meth none D cy := ⟨⟨hx, hb, hml, hown, hts⟩, hr, hlocks, hB⟩
  unfold fX6_clear at hf
  refine lv_iconst (v := (0 : Int32)) hx hb dX6_clear_0 (by decide) ?_
  refine lv_istore_n (lv' := [(1, .int (0 : Int32)), (0, .ref hmo)]) hx hb dX6_clear_1 rfl hl (by decide) rfl (fun ls hl => ?_)
  refine wX6_clear_L2 E0 N  hA _ (fun mB_5 H6 locs7 ls hP hD hS hl hf => ?_) N _ _ _ _ _ hP hD hS (lv_sub hl [1, 0] rfl) hf
  cases hf
  exact W.vret hx hb hr (fun t ht hW => ⟨⟨(), rfl, trivial, by rw [ht]; exact hP, hD⟩, hS.F ht⟩) hS.2.2 dX6_clear_21
/-! SumFormsModel.common(JJ)J -/
abbrev rX6_common : Room := { frames := 0, cells := 0, slots := 0, locals := 0 }
abbrev GX6_common (p : Program) (l : Launch) (e : Env) (s : State) (m : MethodId) (args : Array Value) (below : List Frame) (meth : Method) (c : Code) (r0 : Int64) (fr : JFrame) : Prop := W p l e (headSpec wsX6_common rX6_common).room s m args below meth c s.heap [] 0 0 (MQ below (vp_Sl (fun r => r = r0)) args s 0 0 (fun _ => False)) fr
def fX6_common_B6 (N : Nat)  (self : Int64 → Int64 → Option (Int64)) (k : Int64 → Option (Int64)) (x4 : Int64) (x6 : Int64) : Option (Int64) := (if x6 = (0 : Int64) then (k x4) else (if x6 = 0 then none else (self x6 (lRem x4 x6))))
def fX6_common_L6 (N : Nat)  (k : Int64 → Option (Int64)) : Nat → Int64 → Int64 → Option (Int64)
  | 0 => fun _ _ => none
  | n + 1 => fun x4 x6 => fX6_common_B6 N (fX6_common_L6 N k n) k x4 x6
def fX6_common (N : Nat)  (x0 : Int64) (x2 : Int64) : Option (Int64) := (fX6_common_L6 N (fun x4_3 => (some x4_3)) N x0 x2)
set_option maxHeartbeats 4000000 in
set_option maxRecDepth 100000 in
theorem wX6_common_B6 {p : Program} {l : Launch} {e : Env} {s : State} {m : MethodId} {args : Array Value} {below : List Frame} {meth : Method} {c : Code} {D : va_G} {cy : Nat → ClassId} {r0 : Int64} (E0 : En p m c cX6_common 10 s args wsX6_common RX6 meth (some .long) D cy) (N : Nat)  (hP : va_P D vwCl [] s.heap) (self : Int64 → Int64 → Option (Int64)) (hself : ∀ (x4 : Int64) (x6 : Int64) (ls : Array Slot), lv_has ls 10 [(4, .long x4), (6, .long x6)] → self x4 x6 = some r0 → GX6_common p l e s m args below meth c r0 (F0 m 6 ls [])) (k : Int64 → Option (Int64)) (hk : ∀ (x4 : Int64) (ls : Array Slot), lv_has ls 10 [(4, .long x4)] → k x4 = some r0 → GX6_common p l e s m args below meth c r0 (F0 m 31 ls [])) : ∀ (x4 : Int64) (x6 : Int64) (ls : Array Slot), lv_has ls 10 [(4, .long x4), (6, .long x6)] → fX6_common_B6 N self k x4 x6 = some r0 → GX6_common p l e s m args below meth c r0 (F0 m 6 ls []) := by
  obtain ⟨⟨hx, hb, hml, hown, hts⟩, hr, hlocks, hB⟩ := id E0
  have hK := hB.1
  have hN := hB.2
  intro x4 x6 ls hl hf
  unfold fX6_common_B6 at hf
  refine lv_lload hx hb dX6_common_6 (lv_at hl 1 rfl) ?_
  refine lv_lconst (v := (0 : Int64)) hx hb dX6_common_8 (by decide) ?_
  refine zz_lc_eq (tgt := 31) hx hb dX6_common_9 dX6_common_10 (by decide) (fun c_1 => ?_) (fun c_1 => ?_)
  · have hf := ite_t hf c_1
    exact hk _ _ (lv_sub hl [0] rfl) hf
  · have hf := ite_f hf c_1
    refine lv_lload hx hb dX6_common_13 (lv_at hl 0 rfl) ?_
    refine lv_lload hx hb dX6_common_15 (lv_at hl 1 rfl) ?_
    obtain ⟨z_2, hf⟩ := ite_n hf
    refine zz_lrem hx hb dX6_common_17 z_2 ?_
    refine lv_lstore (lv' := [(8, .long (lRem x4 x6)), (4, .long x4), (6, .long x6)]) hx hb dX6_common_18 hl (by decide) rfl (fun ls hl => ?_)
    refine lv_lload hx hb dX6_common_20 (lv_at hl 2 rfl) ?_
    refine lv_lstore (lv' := [(4, .long x6), (8, .long (lRem x4 x6)), (6, .long x6)]) hx hb dX6_common_22 hl (by decide) rfl (fun ls hl => ?_)
    refine lv_lload hx hb dX6_common_24 (lv_at hl 1 rfl) ?_
    refine lv_lstore (lv' := [(6, .long (lRem x4 x6)), (4, .long x6), (8, .long (lRem x4 x6))]) hx hb dX6_common_26 hl (by decide) rfl (fun ls hl => ?_)
    refine lv_goto (tgt := 6) hx hb dX6_common_28 (by decide) ?_
    exact hself _ _ _ (lv_sub hl [1, 0] rfl) hf
theorem wX6_common_L6 {p : Program} {l : Launch} {e : Env} {s : State} {m : MethodId} {args : Array Value} {below : List Frame} {meth : Method} {c : Code} {D : va_G} {cy : Nat → ClassId} {r0 : Int64} (E0 : En p m c cX6_common 10 s args wsX6_common RX6 meth (some .long) D cy) (N : Nat)  (hP : va_P D vwCl [] s.heap) (k : Int64 → Option (Int64)) (hk : ∀ (x4 : Int64) (ls : Array Slot), lv_has ls 10 [(4, .long x4)] → k x4 = some r0 → GX6_common p l e s m args below meth c r0 (F0 m 31 ls [])) : ∀ (n : Nat), ∀ (x4 : Int64) (x6 : Int64) (ls : Array Slot), lv_has ls 10 [(4, .long x4), (6, .long x6)] → fX6_common_L6 N k n x4 x6 = some r0 → GX6_common p l e s m args below meth c r0 (F0 m 6 ls []) := by
  intro n
  induction n with
  | zero => intro x4 x6 ls hl hf; cases hf
  | succ n ih => exact wX6_common_B6 E0 N hP _ ih k hk
set_option maxHeartbeats 4000000 in
set_option maxRecDepth 100000 in
theorem ctX6_common (l : Launch) (D : va_G) (cy : Nat → ClassId) (N : Nat)  (x0 : Int64) (x2 : Int64) (r0 : Int64) (hf : fX6_common N x0 x2 = some r0) : Met l yX6_common wsX6_common rX6_common (va_Pc [.long x0, .long x2] (Rd D cy [])) (vp_Sl (fun r => r = r0)) 0 0 (fun _ => False) := by
  refine Met.ofW (cc := cX6_common) (maxL := 10) (ret := (some .long)) (by decide) rfl ?_
  intro p e s m args below meth c s₁ B hml hv
  obtain ⟨rfl, hP, hB⟩ := hv
  have hx := B.exec
  have hb := B.bytes
  have hr := B.returns
  have hts := atoms_spec (ws := wsX6_common) B.pre
  have hown : s.vm.findClass RX6 = some m.cls := findClass_of_methodNamed B.named
  have hlocks := B.notSynchronized
  have hK := hB.1
  have hN := hB.2
  have hl := lv_entry ([.long x0, .long x2]) (n := 10) (Nat.le_of_ble_eq_true rfl)
  rw [lg_entry_eq]
  generalize (lg_sl ([.long x0, .long x2]) ++ List.replicate (10 - (lg_sl ([.long x0, .long x2])).length) Slot.unset).toArray = ls at hl ⊢
  have hl : lv_has ls 10 [(0, .long x0), (2, .long x2)] := hl
  have E0 : En p m c cX6_common 10 s ([.long x0, .long x2] : List Value).toArray wsX6_common RX6 meth (some .long) D cy := ⟨⟨hx, hb, hml, hown, hts⟩, hr, hlocks, hB⟩
  unfold fX6_common at hf
  refine lv_lload_n hx hb dX6_common_0 rfl (lv_at hl 0 rfl) ?_
  refine lv_lstore (lv' := [(4, .long x0), (0, .long x0), (2, .long x2)]) hx hb dX6_common_1 hl (by decide) rfl (fun ls hl => ?_)
  refine lv_lload_n hx hb dX6_common_3 rfl (lv_at hl 2 rfl) ?_
  refine lv_lstore (lv' := [(6, .long x2), (4, .long x0), (0, .long x0), (2, .long x2)]) hx hb dX6_common_4 hl (by decide) rfl (fun ls hl => ?_)
  refine wX6_common_L6 E0 N  hP _ (fun x4_3 ls hl hf => ?_) N _ _ _ (lv_sub hl [1, 0] rfl) hf
  refine lv_lload hx hb dX6_common_31 (lv_at hl 0 rfl) ?_
  exact W.lret (v := x4_3) hx hb hr (fun t ht hW => ⟨_, rfl, Option.some.inj hf, ht⟩) (fun _ h => absurd h List.not_mem_nil) dX6_common_33
/-! SumFormsModel.count(I)I -/
abbrev rX6_count : Room := { frames := 0, cells := 0, slots := 0, locals := 0 }
theorem mX6_count_0 : Cond.fieldLink RX6 63 "SumFormsModel" "size" "I" ∈ wsX6_count := by decide +kernel
theorem mX6_count_1 : Cond.fieldLink RX6 59 "SumFormsModel" "forms" "I" ∈ wsX6_count := by decide +kernel
theorem inX6_count_X6 : ∀ w ∈ u_ws RX6 TX6 16, w ∈ wsX6_count := by decide +kernel
abbrev GX6_count (p : Program) (l : Launch) (e : Env) (s : State) (m : MethodId) (args : Array Value) (below : List Frame) (meth : Method) (c : Code) (r0 : Int32) (fr : JFrame) : Prop := W p l e (headSpec wsX6_count rX6_count).room s m args below meth c s.heap [] 0 0 (MQ below (vp_Si (fun r => r = r0)) args s 0 0 (fun _ => False)) fr
def fX6_count (N : Nat) (mC : Int32) (mN : Int32) (x1 : Int32) : Option (Int32) := (if x1 = 0 then (some mC) else (if x1 = (1 : Int32) then (some mN) else (some (-1 : Int32))))
set_option maxHeartbeats 4000000 in
set_option maxRecDepth 100000 in
theorem ctX6_count (l : Launch) (D : va_G) (cy : Nat → ClassId) (N : Nat) (hmo hmW hmP hmS hmE hmI hmO hmT hmK hmF hmH hmM hmD hmR hmB : Nat) (mC : Int32) (mN : Int32) (x1 : Int32) (r0 : Int32) (hf : fX6_count N mC mN x1 = some r0) : Met l yX6_count wsX6_count rX6_count (va_Pc [.ref hmo, .int x1] (Rd D cy [(hmo, .inr (5, [.int mC, .ref hmW, .ref hmP, .ref hmS, .ref hmE, .ref hmI, .ref hmO, .ref hmT, .int mN, .ref hmK, .ref hmF, .ref hmH, .ref hmM, .ref hmD, .ref hmR, .ref hmB]))])) (vp_Si (fun r => r = r0)) 0 0 (fun _ => False) := by
  refine Met.ofW (cc := cX6_count) (maxL := 2) (ret := (some .int)) (by decide) rfl ?_
  intro p e s m args below meth c s₁ B hml hv
  obtain ⟨rfl, hP, hB⟩ := hv
  have hx := B.exec
  have hb := B.bytes
  have hr := B.returns
  have hts := atoms_spec (ws := wsX6_count) B.pre
  have hown : s.vm.findClass RX6 = some m.cls := findClass_of_methodNamed B.named
  have hlocks := B.notSynchronized
  have hK := hB.1
  have hN := hB.2
  have hl := lv_entry ([.ref hmo, .int x1]) (n := 2) (Nat.le_of_ble_eq_true rfl)
  rw [lg_entry_eq]
  generalize (lg_sl ([.ref hmo, .int x1]) ++ List.replicate (2 - (lg_sl ([.ref hmo, .int x1])).length) Slot.unset).toArray = ls at hl ⊢
  have hl : lv_has ls 2 [(0, .ref hmo), (1, .int x1)] := hl
  have E0 : En p m c cX6_count 2 s ([.ref hmo, .int x1] : List Value).toArray wsX6_count RX6 meth (some .int) D cy := ⟨⟨hx, hb, hml, hown, hts⟩, hr, hlocks, hB⟩
  unfold fX6_count at hf
  refine lv_iload_n hx hb dX6_count_0 rfl (lv_at hl 1 rfl) ?_
  refine lv_if_ne (tgt := 11) hx hb dX6_count_1 (by decide) (fun c_1 => ?_) (fun c_1 => ?_)
  · have hf := ite_f hf c_1
    refine lv_iload_n hx hb dX6_count_11 rfl (lv_at hl 1 rfl) ?_
    refine lv_iconst (v := (1 : Int32)) hx hb dX6_count_12 (by decide) ?_
    refine lv_icmp_ne (tgt := 23) hx hb dX6_count_13 (by decide) (fun c_2 => ?_) (fun c_2 => ?_)
    · have hf := ite_f hf c_2
      refine lv_iconst (v := (-1 : Int32)) hx hb dX6_count_23 (by decide) ?_
      exact W.iret (v := (-1 : Int32)) hx hb hr (fun t ht hW => ⟨_, rfl, Option.some.inj hf, ht⟩) (fun _ h => absurd h List.not_mem_nil) dX6_count_24
    · have hf := ite_t hf c_2
      refine lv_aload_n hx hb dX6_count_16 rfl (lv_at hl 0 rfl) ?_
      refine va_get (D := D) (ci := 5) (v := .int mN) (C := RX6) (T := TX6) (N := 16) hx hb hts inX6_count_X6 hown hK hP 0 rfl rfl 8 (by decide) (hts _ mX6_count_0) (fun _ h9 => h9) rfl dX6_count_17 ?_
      refine lv_goto (tgt := 24) hx hb dX6_count_20 (by decide) ?_
      exact W.iret (v := mN) hx hb hr (fun t ht hW => ⟨_, rfl, Option.some.inj hf, ht⟩) (fun _ h => absurd h List.not_mem_nil) dX6_count_24
  · have hf := ite_t hf c_1
    refine lv_aload_n hx hb dX6_count_4 rfl (lv_at hl 0 rfl) ?_
    refine va_get (D := D) (ci := 5) (v := .int mC) (C := RX6) (T := TX6) (N := 16) hx hb hts inX6_count_X6 hown hK hP 0 rfl rfl 0 (by decide) (hts _ mX6_count_1) (fun _ h9 => h9) rfl dX6_count_5 ?_
    refine lv_goto (tgt := 24) hx hb dX6_count_8 (by decide) ?_
    exact W.iret (v := mC) hx hb hr (fun t ht hW => ⟨_, rfl, Option.some.inj hf, ht⟩) (fun _ h => absurd h List.not_mem_nil) dX6_count_24
/-! SumFormsModel.cut(I)I -/
abbrev rX6_cut : Room := { frames := 0, cells := 0, slots := 0, locals := 0 }
theorem mX6_cut_0 : Cond.fieldLink RX6 63 "SumFormsModel" "size" "I" ∈ wsX6_cut := by decide +kernel
theorem inX6_cut_X6 : ∀ w ∈ u_ws RX6 TX6 16, w ∈ wsX6_cut := by decide +kernel
abbrev GX6_cut (p : Program) (l : Launch) (e : Env) (s : State) (m : MethodId) (args : Array Value) (below : List Frame) (meth : Method) (c : Code) (D : va_G) (cy : Nat → ClassId) (A : Nat → Prop) (hmo : Nat) (hmW : Nat) (hmP : Nat) (hmS : Nat) (hmE : Nat) (hmI : Nat) (hmO : Nat) (hmT : Nat) (hmK : Nat) (hmF : Nat) (hmH : Nat) (hmM : Nat) (hmD : Nat) (hmR : Nat) (hmB : Nat) (mC : Int32) (r0 : Int32 × Int32) (H : Heap) (locs : List Loc) (fr : JFrame) : Prop := W p l e (headSpec wsX6_cut rX6_cut).room s m args below meth c H locs 0 0 (MQ below (Qwi D A [(hmo, .inr (5, [.int mC, .ref hmW, .ref hmP, .ref hmS, .ref hmE, .ref hmI, .ref hmO, .ref hmT, .int r0.2, .ref hmK, .ref hmF, .ref hmH, .ref hmM, .ref hmD, .ref hmR, .ref hmB]))] r0.1) args s 0 0 A) fr
def fX6_cut (N : Nat) (mN : Int32) (x1 : Int32) : Option (Int32 × Int32) := (if x1 < 0 then (some ((-1 : Int32), mN)) else (if x1 ≤ mN then (some ((mN - x1), x1)) else (some ((-1 : Int32), mN))))
set_option maxHeartbeats 4000000 in
set_option maxRecDepth 100000 in
theorem ctX6_cut (l : Launch) (D : va_G) (cy : Nat → ClassId) (N : Nat) (hmo hmW hmP hmS hmE hmI hmO hmT hmK hmF hmH hmM hmD hmR hmB : Nat) (sz : Nat) (mC : Int32) (mN : Int32) (x1 : Int32) (r0 : Int32 × Int32) (hf : fX6_cut N mN x1 = some r0) : Met l yX6_cut wsX6_cut rX6_cut (va_Pc [.ref hmo, .int x1] (Wr D cy [(hmo, .inr (5, [.int mC, .ref hmW, .ref hmP, .ref hmS, .ref hmE, .ref hmI, .ref hmO, .ref hmT, .int mN, .ref hmK, .ref hmF, .ref hmH, .ref hmM, .ref hmD, .ref hmR, .ref hmB]))] sz)) (Qwi D (va_A [(hmo, .inr (5, [.int mC, .ref hmW, .ref hmP, .ref hmS, .ref hmE, .ref hmI, .ref hmO, .ref hmT, .int mN, .ref hmK, .ref hmF, .ref hmH, .ref hmM, .ref hmD, .ref hmR, .ref hmB]))] sz) [(hmo, .inr (5, [.int mC, .ref hmW, .ref hmP, .ref hmS, .ref hmE, .ref hmI, .ref hmO, .ref hmT, .int r0.2, .ref hmK, .ref hmF, .ref hmH, .ref hmM, .ref hmD, .ref hmR, .ref hmB]))] r0.1) 0 0 (va_A [(hmo, .inr (5, [.int mC, .ref hmW, .ref hmP, .ref hmS, .ref hmE, .ref hmI, .ref hmO, .ref hmT, .int mN, .ref hmK, .ref hmF, .ref hmH, .ref hmM, .ref hmD, .ref hmR, .ref hmB]))] sz) := by
  refine Met.ofW (cc := cX6_cut) (maxL := 3) (ret := (some .int)) (by decide) rfl ?_
  intro p e s m args below meth c s₁ B hml hv
  obtain ⟨rfl, hsz, hP, hD0, hB⟩ := hv
  have hx := B.exec
  have hb := B.bytes
  have hr := B.returns
  have hts := atoms_spec (ws := wsX6_cut) B.pre
  have hown : s.vm.findClass RX6 = some m.cls := findClass_of_methodNamed B.named
  have hlocks := B.notSynchronized
  have hK := hB.1
  have hN := hB.2
  subst hsz
  have hD := hD0.self (sz := s.heap.size)
  have hA : ∀ q : Nat, s.heap.size ≤ q → va_A [(hmo, .inr (5, [.int mC, .ref hmW, .ref hmP, .ref hmS, .ref hmE, .ref hmI, .ref hmO, .ref hmT, .int mN, .ref hmK, .ref hmF, .ref hmH, .ref hmM, .ref hmD, .ref hmR, .ref hmB]))] s.heap.size q := fun q h => Or.inr h
  generalize va_A [(hmo, .inr (5, [.int mC, .ref hmW, .ref hmP, .ref hmS, .ref hmE, .ref hmI, .ref hmO, .ref hmT, .int mN, .ref hmK, .ref hmF, .ref hmH, .ref hmM, .ref hmD, .ref hmR, .ref hmB]))] s.heap.size = A at hD hA ⊢
  have hS : va_S A s.heap s.heap [] := va_S.rf
  have hl := lv_entry ([.ref hmo, .int x1]) (n := 3) (Nat.le_of_ble_eq_true rfl)
  rw [lg_entry_eq]
  generalize (lg_sl ([.ref hmo, .int x1]) ++ List.replicate (3 - (lg_sl ([.ref hmo, .int x1])).length) Slot.unset).toArray = ls at hl ⊢
  have hl : lv_has ls 3 [(0, .ref hmo), (1, .int x1)] := hl
  have E0 : En p m c cX6_cut 3 s ([.ref hmo, .int x1] : List Value).toArray wsX6_cut RX6 meth (some .int) D cy := ⟨⟨hx, hb, hml, hown, hts⟩, hr, hlocks, hB⟩
  unfold fX6_cut at hf
  refine lv_iload_n hx hb dX6_cut_0 rfl (lv_at hl 1 rfl) ?_
  refine lv_if_lt (tgt := 12) hx hb dX6_cut_1 (by decide) (fun c_1 => ?_) (fun c_1 => ?_)
  · have hf := ite_t hf c_1
    refine lv_iconst (v := (-1 : Int32)) hx hb dX6_cut_12 (by decide) ?_
    cases hf
    exact W.iret (v := (-1 : Int32)) hx hb hr (fun t ht hW => ⟨⟨_, (), rfl, rfl, by rw [ht]; exact hP, hD⟩, hS.F ht⟩) hS.2.2 dX6_cut_13
  · have hf := ite_f hf c_1
    refine lv_iload_n hx hb dX6_cut_4 rfl (lv_at hl 1 rfl) ?_
    refine lv_aload_n hx hb dX6_cut_5 rfl (lv_at hl 0 rfl) ?_
    refine va_get (D := D) (ci := 5) (v := .int mN) (C := RX6) (T := TX6) (N := 16) hx hb hts inX6_cut_X6 hown hK hP 0 rfl rfl 8 (by decide) (hts _ mX6_cut_0) (fun _ h9 => h9) rfl dX6_cut_6 ?_
    refine lv_icmp_le (tgt := 14) hx hb dX6_cut_9 (by decide) (fun c_2 => ?_) (fun c_2 => ?_)
    · have hf := ite_t hf c_2
      refine lv_aload_n hx hb dX6_cut_14 rfl (lv_at hl 0 rfl) ?_
      refine va_get (D := D) (ci := 5) (v := .int mN) (C := RX6) (T := TX6) (N := 16) hx hb hts inX6_cut_X6 hown hK hP 0 rfl rfl 8 (by decide) (hts _ mX6_cut_0) (fun _ h9 => h9) rfl dX6_cut_15 ?_
      refine lv_iload_n hx hb dX6_cut_18 rfl (lv_at hl 1 rfl) ?_
      refine lv_isub hx hb dX6_cut_19 ?_
      refine lv_istore_n (lv' := [(2, .int (mN - x1)), (0, .ref hmo), (1, .int x1)]) hx hb dX6_cut_20 rfl hl (by decide) rfl (fun ls hl => ?_)
      refine lv_aload_n hx hb dX6_cut_21 rfl (lv_at hl 1 rfl) ?_
      refine lv_iload_n hx hb dX6_cut_22 rfl (lv_at hl 2 rfl) ?_
      refine va_put (D := D) (ci := 5) (v := .int x1) (ty := .int) (C := RX6) (T := TX6) (N := 16) hx hb hts inX6_cut_X6 tyX6 tyX6_ok nmX6 hown hK hP hD hS 0 rfl rfl 8 (by decide) (hts _ mX6_cut_0) (fun _ h9 => h9) rfl (by decide +kernel) rfl rfl (Nat.le_of_ble_eq_true rfl) dX6_cut_23 (fun H3 locs4 hP hD hS => ?_)
      have hP : va_P D vwCl [(hmo, .inr (5, [.int mC, .ref hmW, .ref hmP, .ref hmS, .ref hmE, .ref hmI, .ref hmO, .ref hmT, .int x1, .ref hmK, .ref hmF, .ref hmH, .ref hmM, .ref hmD, .ref hmR, .ref hmB]))] H3 := hP
      have hD : va_D A [(hmo, .inr (5, [.int mC, .ref hmW, .ref hmP, .ref hmS, .ref hmE, .ref hmI, .ref hmO, .ref hmT, .int x1, .ref hmK, .ref hmF, .ref hmH, .ref hmM, .ref hmD, .ref hmR, .ref hmB]))] := hD
      refine lv_iload_n hx hb dX6_cut_26 rfl (lv_at hl 0 rfl) ?_
      cases hf
      exact W.iret (v := (mN - x1)) hx hb hr (fun t ht hW => ⟨⟨_, (), rfl, rfl, by rw [ht]; exact hP, hD⟩, hS.F ht⟩) hS.2.2 dX6_cut_27
    · have hf := ite_f hf c_2
      refine lv_iconst (v := (-1 : Int32)) hx hb dX6_cut_12 (by decide) ?_
      cases hf
      exact W.iret (v := (-1 : Int32)) hx hb hr (fun t ht hW => ⟨⟨_, (), rfl, rfl, by rw [ht]; exact hP, hD⟩, hS.F ht⟩) hS.2.2 dX6_cut_13
/-! SumFormsModel.degree(J)I -/
abbrev rX6_degree : Room := { frames := 0, cells := 0, slots := 0, locals := 0 }
abbrev GX6_degree (p : Program) (l : Launch) (e : Env) (s : State) (m : MethodId) (args : Array Value) (below : List Frame) (meth : Method) (c : Code) (r0 : Int32) (fr : JFrame) : Prop := W p l e (headSpec wsX6_degree rX6_degree).room s m args below meth c s.heap [] 0 0 (MQ below (vp_Si (fun r => r = r0)) args s 0 0 (fun _ => False)) fr
def fX6_degree_B4 (N : Nat) (x0 : Int64) (self : Int32 → Int32 → Option (Int32)) (k : Int32 → Option (Int32)) (x2 : Int32) (x3 : Int32) : Option (Int32) := (if (34 : Int32) ≤ x3 then (k x2) else (if ((lShr x0 x3) &&& (1 : Int64)) = (1 : Int64) then (self x3 (x3 + (1 : Int32))) else (self x2 (x3 + (1 : Int32)))))
def fX6_degree_L4 (N : Nat) (x0 : Int64) (k : Int32 → Option (Int32)) : Nat → Int32 → Int32 → Option (Int32)
  | 0 => fun _ _ => none
  | n + 1 => fun x2 x3 => fX6_degree_B4 N x0 (fX6_degree_L4 N x0 k n) k x2 x3
def fX6_degree (N : Nat)  (x0 : Int64) : Option (Int32) := (fX6_degree_L4 N x0 (fun x2_3 => (some x2_3)) N (-1 : Int32) (0 : Int32))
set_option maxHeartbeats 4000000 in
set_option maxRecDepth 100000 in
theorem wX6_degree_B4 {p : Program} {l : Launch} {e : Env} {s : State} {m : MethodId} {args : Array Value} {below : List Frame} {meth : Method} {c : Code} {D : va_G} {cy : Nat → ClassId} {r0 : Int32} (E0 : En p m c cX6_degree 4 s args wsX6_degree RX6 meth (some .int) D cy) (N : Nat) (x0 : Int64) (hP : va_P D vwCl [] s.heap) (self : Int32 → Int32 → Option (Int32)) (hself : ∀ (x2 : Int32) (x3 : Int32) (ls : Array Slot), lv_has ls 4 [(0, .long x0), (2, .int x2), (3, .int x3)] → self x2 x3 = some r0 → GX6_degree p l e s m args below meth c r0 (F0 m 4 ls [])) (k : Int32 → Option (Int32)) (hk : ∀ (x2 : Int32) (ls : Array Slot), lv_has ls 4 [(2, .int x2)] → k x2 = some r0 → GX6_degree p l e s m args below meth c r0 (F0 m 32 ls [])) : ∀ (x2 : Int32) (x3 : Int32) (ls : Array Slot), lv_has ls 4 [(0, .long x0), (2, .int x2), (3, .int x3)] → fX6_degree_B4 N x0 self k x2 x3 = some r0 → GX6_degree p l e s m args below meth c r0 (F0 m 4 ls []) := by
  obtain ⟨⟨hx, hb, hml, hown, hts⟩, hr, hlocks, hB⟩ := id E0
  have hK := hB.1
  have hN := hB.2
  intro x2 x3 ls hl hf
  unfold fX6_degree_B4 at hf
  refine lv_iload_n hx hb dX6_degree_4 rfl (lv_at hl 2 rfl) ?_
  refine lv_bipush (v := (34 : Int32)) hx hb dX6_degree_5 (by decide) ?_
  refine lv_icmp_ge (tgt := 32) hx hb dX6_degree_7 (by decide) (fun c_1 => ?_) (fun c_1 => ?_)
  · have hf := ite_t hf c_1
    exact hk _ _ (lv_sub hl [1] rfl) hf
  · have hf := ite_f hf c_1
    refine lv_lload_n hx hb dX6_degree_10 rfl (lv_at hl 0 rfl) ?_
    refine lv_iload_n hx hb dX6_degree_11 rfl (lv_at hl 2 rfl) ?_
    refine zz_lshr hx hb dX6_degree_12 ?_
    refine lv_lconst (v := (1 : Int64)) hx hb dX6_degree_13 (by decide) ?_
    refine lv_land hx hb dX6_degree_14 ?_
    refine lv_lconst (v := (1 : Int64)) hx hb dX6_degree_15 (by decide) ?_
    refine zz_lc_ne (tgt := 24) hx hb dX6_degree_16 dX6_degree_17 (by decide) (fun c_2 => ?_) (fun c_2 => ?_)
    · have hf := ite_f hf c_2
      refine lv_iload_n hx hb dX6_degree_24 rfl (lv_at hl 1 rfl) ?_
      refine lv_istore_n (lv' := [(2, .int x2), (0, .long x0), (3, .int x3)]) hx hb dX6_degree_25 rfl hl (by decide) rfl (fun ls hl => ?_)
      refine lv_iinc (v := (x3 + (1 : Int32))) (lv' := [(3, .int (x3 + (1 : Int32))), (2, .int x2), (0, .long x0)]) hx hb dX6_degree_26 hl (k := 2) rfl rfl (by decide) rfl (fun ls hl => ?_)
      refine lv_goto (tgt := 4) hx hb dX6_degree_29 (by decide) ?_
      exact hself _ _ _ (lv_sub hl [2, 1, 0] rfl) hf
    · have hf := ite_t hf c_2
      refine lv_iload_n hx hb dX6_degree_20 rfl (lv_at hl 2 rfl) ?_
      refine lv_goto (tgt := 25) hx hb dX6_degree_21 (by decide) ?_
      refine lv_istore_n (lv' := [(2, .int x3), (0, .long x0), (3, .int x3)]) hx hb dX6_degree_25 rfl hl (by decide) rfl (fun ls hl => ?_)
      refine lv_iinc (v := (x3 + (1 : Int32))) (lv' := [(3, .int (x3 + (1 : Int32))), (2, .int x3), (0, .long x0)]) hx hb dX6_degree_26 hl (k := 2) rfl rfl (by decide) rfl (fun ls hl => ?_)
      refine lv_goto (tgt := 4) hx hb dX6_degree_29 (by decide) ?_
      exact hself _ _ _ (lv_sub hl [2, 1, 0] rfl) hf
theorem wX6_degree_L4 {p : Program} {l : Launch} {e : Env} {s : State} {m : MethodId} {args : Array Value} {below : List Frame} {meth : Method} {c : Code} {D : va_G} {cy : Nat → ClassId} {r0 : Int32} (E0 : En p m c cX6_degree 4 s args wsX6_degree RX6 meth (some .int) D cy) (N : Nat) (x0 : Int64) (hP : va_P D vwCl [] s.heap) (k : Int32 → Option (Int32)) (hk : ∀ (x2 : Int32) (ls : Array Slot), lv_has ls 4 [(2, .int x2)] → k x2 = some r0 → GX6_degree p l e s m args below meth c r0 (F0 m 32 ls [])) : ∀ (n : Nat), ∀ (x2 : Int32) (x3 : Int32) (ls : Array Slot), lv_has ls 4 [(0, .long x0), (2, .int x2), (3, .int x3)] → fX6_degree_L4 N x0 k n x2 x3 = some r0 → GX6_degree p l e s m args below meth c r0 (F0 m 4 ls []) := by
  intro n
  induction n with
  | zero => intro x2 x3 ls hl hf; cases hf
  | succ n ih => exact wX6_degree_B4 E0 N x0 hP _ ih k hk
set_option maxHeartbeats 4000000 in
set_option maxRecDepth 100000 in
theorem ctX6_degree (l : Launch) (D : va_G) (cy : Nat → ClassId) (N : Nat)  (x0 : Int64) (r0 : Int32) (hf : fX6_degree N x0 = some r0) : Met l yX6_degree wsX6_degree rX6_degree (va_Pc [.long x0] (Rd D cy [])) (vp_Si (fun r => r = r0)) 0 0 (fun _ => False) := by
  refine Met.ofW (cc := cX6_degree) (maxL := 4) (ret := (some .int)) (by decide) rfl ?_
  intro p e s m args below meth c s₁ B hml hv
  obtain ⟨rfl, hP, hB⟩ := hv
  have hx := B.exec
  have hb := B.bytes
  have hr := B.returns
  have hts := atoms_spec (ws := wsX6_degree) B.pre
  have hown : s.vm.findClass RX6 = some m.cls := findClass_of_methodNamed B.named
  have hlocks := B.notSynchronized
  have hK := hB.1
  have hN := hB.2
  have hl := lv_entry ([.long x0]) (n := 4) (Nat.le_of_ble_eq_true rfl)
  rw [lg_entry_eq]
  generalize (lg_sl ([.long x0]) ++ List.replicate (4 - (lg_sl ([.long x0])).length) Slot.unset).toArray = ls at hl ⊢
  have hl : lv_has ls 4 [(0, .long x0)] := hl
  have E0 : En p m c cX6_degree 4 s ([.long x0] : List Value).toArray wsX6_degree RX6 meth (some .int) D cy := ⟨⟨hx, hb, hml, hown, hts⟩, hr, hlocks, hB⟩
  unfold fX6_degree at hf
  refine lv_iconst (v := (-1 : Int32)) hx hb dX6_degree_0 (by decide) ?_
  refine lv_istore_n (lv' := [(2, .int (-1 : Int32)), (0, .long x0)]) hx hb dX6_degree_1 rfl hl (by decide) rfl (fun ls hl => ?_)
  refine lv_iconst (v := (0 : Int32)) hx hb dX6_degree_2 (by decide) ?_
  refine lv_istore_n (lv' := [(3, .int (0 : Int32)), (2, .int (-1 : Int32)), (0, .long x0)]) hx hb dX6_degree_3 rfl hl (by decide) rfl (fun ls hl => ?_)
  refine wX6_degree_L4 E0 N x0 hP _ (fun x2_3 ls hl hf => ?_) N _ _ _ (lv_sub hl [2, 1, 0] rfl) hf
  refine lv_iload_n hx hb dX6_degree_32 rfl (lv_at hl 0 rfl) ?_
  exact W.iret (v := x2_3) hx hb hr (fun t ht hW => ⟨_, rfl, Option.some.inj hf, ht⟩) (fun _ h => absurd h List.not_mem_nil) dX6_degree_33
/-! SumFormsModel.had(JZ)Z -/
abbrev rX6_had : Room := { frames := 0, cells := 0, slots := 0, locals := 0 }
theorem mX6_had_0 : Cond.constantLong RX6 145 (2654435761) ∈ wsX6_had := by decide +kernel
theorem mX6_had_1 : Cond.constantLong RX6 147 (65535) ∈ wsX6_had := by decide +kernel
theorem mX6_had_2 : Cond.fieldLink RX6 52 "SumFormsModel" "table" "[J" ∈ wsX6_had := by decide +kernel
theorem mX6_had_3 : Cond.constant RX6 149 (65535) ∈ wsX6_had := by decide +kernel
theorem inX6_had_X6 : ∀ w ∈ u_ws RX6 TX6 16, w ∈ wsX6_had := by decide +kernel
abbrev GX6_had (p : Program) (l : Launch) (e : Env) (s : State) (m : MethodId) (args : Array Value) (below : List Frame) (meth : Method) (c : Code) (D : va_G) (cy : Nat → ClassId) (A : Nat → Prop) (hmo : Nat) (hmW : Nat) (hmP : Nat) (hmS : Nat) (hmE : Nat) (hmI : Nat) (hmO : Nat) (hmT : Nat) (hmK : Nat) (hmF : Nat) (hmH : Nat) (hmM : Nat) (hmD : Nat) (hmR : Nat) (hmB : Nat) (mC : Int32) (mN : Int32) (r0 : Int32 × (Nat → Int64)) (H : Heap) (locs : List Loc) (fr : JFrame) : Prop := W p l e (headSpec wsX6_had rX6_had).room s m args below meth c H locs 0 0 (MQ below (Qwi D A [(hmo, .inr (5, [.int mC, .ref hmW, .ref hmP, .ref hmS, .ref hmE, .ref hmI, .ref hmO, .ref hmT, .int mN, .ref hmK, .ref hmF, .ref hmH, .ref hmM, .ref hmD, .ref hmR, .ref hmB])), (hmB, .inl (cy 1, 65536, .inr (.inl r0.2)))] r0.1) args s 0 0 A) fr
def fX6_had_B15 (N : Nat) (x1 : Int64) (x3 : Int32) (self : (Nat → Int64) → Int32 → Option (Int32 × (Nat → Int64))) (k : (Nat → Int64) → Int32 → Option (Int32 × (Nat → Int64))) (mB : Nat → Int64) (x4 : Int32) : Option (Int32 × (Nat → Int64)) := (if OOB x4 65536 then none else (if (mB x4.toNatClampNeg) = (0 : Int64) then (k mB x4) else (if OOB x4 65536 then none else (if (mB x4.toNatClampNeg) = (x1 + (1 : Int64)) then (k mB x4) else (self mB ((x4 + (1 : Int32)) &&& (65535 : Int32)))))))
def fX6_had_L15 (N : Nat) (x1 : Int64) (x3 : Int32) (k : (Nat → Int64) → Int32 → Option (Int32 × (Nat → Int64))) : Nat → (Nat → Int64) → Int32 → Option (Int32 × (Nat → Int64))
  | 0 => fun _ _ => none
  | n + 1 => fun mB x4 => fX6_had_B15 N x1 x3 (fX6_had_L15 N x1 x3 k n) k mB x4
def fX6_had (N : Nat) (mB : Nat → Int64) (x1 : Int64) (x3 : Int32) : Option (Int32 × (Nat → Int64)) := (fX6_had_L15 N x1 x3 (fun mB_5 x4_6 => (if OOB x4_6 65536 then none else (if (mB_5 x4_6.toNatClampNeg) = (0 : Int64) then (if x3 = 0 then (some ((0 : Int32), mB_5)) else (if OOB x4_6 65536 then none else (some ((0 : Int32), (vp_updL mB_5 x4_6.toNatClampNeg (x1 + (1 : Int64))))))) else (if x3 = 0 then (some ((1 : Int32), mB_5)) else (if OOB x4_6 65536 then none else (some ((1 : Int32), (vp_updL mB_5 x4_6.toNatClampNeg (x1 + (1 : Int64)))))))))) N mB (((lShr (x1 * (2654435761 : Int64)) (13 : Int32)) &&& (65535 : Int64)).toInt32))
set_option maxHeartbeats 4000000 in
set_option maxRecDepth 100000 in
theorem wX6_had_B15 {p : Program} {l : Launch} {e : Env} {s : State} {m : MethodId} {args : Array Value} {below : List Frame} {meth : Method} {c : Code} {D : va_G} {cy : Nat → ClassId} {A : Nat → Prop} {hmo hmW hmP hmS hmE hmI hmO hmT hmK hmF hmH hmM hmD hmR hmB : Nat} {mC : Int32} {mN : Int32} {r0 : Int32 × (Nat → Int64)} (E0 : En p m c cX6_had 6 s args wsX6_had RX6 meth (some .boolean) D cy) (N : Nat) (x1 : Int64) (x3 : Int32) (hA : ∀ q, s.heap.size ≤ q → A q) (self : (Nat → Int64) → Int32 → Option (Int32 × (Nat → Int64))) (hself : ∀ (mB : Nat → Int64) (x4 : Int32) (H : Heap) (locs : List Loc) (ls : Array Slot), va_P D vwCl [(hmo, .inr (5, [.int mC, .ref hmW, .ref hmP, .ref hmS, .ref hmE, .ref hmI, .ref hmO, .ref hmT, .int mN, .ref hmK, .ref hmF, .ref hmH, .ref hmM, .ref hmD, .ref hmR, .ref hmB])), (hmB, .inl (cy 1, 65536, .inr (.inl mB)))] H → va_D A [(hmo, .inr (5, [.int mC, .ref hmW, .ref hmP, .ref hmS, .ref hmE, .ref hmI, .ref hmO, .ref hmT, .int mN, .ref hmK, .ref hmF, .ref hmH, .ref hmM, .ref hmD, .ref hmR, .ref hmB])), (hmB, .inl (cy 1, 65536, .inr (.inl mB)))] → va_S A s.heap H locs → lv_has ls 6 [(0, .ref hmo), (1, .long x1), (3, .int x3), (4, .int x4)] → self mB x4 = some r0 → GX6_had p l e s m args below meth c D cy A hmo hmW hmP hmS hmE hmI hmO hmT hmK hmF hmH hmM hmD hmR hmB mC mN r0 H locs (F0 m 15 ls [])) (k : (Nat → Int64) → Int32 → Option (Int32 × (Nat → Int64))) (hk : ∀ (mB : Nat → Int64) (x4 : Int32) (H : Heap) (locs : List Loc) (ls : Array Slot), va_P D vwCl [(hmo, .inr (5, [.int mC, .ref hmW, .ref hmP, .ref hmS, .ref hmE, .ref hmI, .ref hmO, .ref hmT, .int mN, .ref hmK, .ref hmF, .ref hmH, .ref hmM, .ref hmD, .ref hmR, .ref hmB])), (hmB, .inl (cy 1, 65536, .inr (.inl mB)))] H → va_D A [(hmo, .inr (5, [.int mC, .ref hmW, .ref hmP, .ref hmS, .ref hmE, .ref hmI, .ref hmO, .ref hmT, .int mN, .ref hmK, .ref hmF, .ref hmH, .ref hmM, .ref hmD, .ref hmR, .ref hmB])), (hmB, .inl (cy 1, 65536, .inr (.inl mB)))] → va_S A s.heap H locs → lv_has ls 6 [(0, .ref hmo), (1, .long x1), (3, .int x3), (4, .int x4)] → k mB x4 = some r0 → GX6_had p l e s m args below meth c D cy A hmo hmW hmP hmS hmE hmI hmO hmT hmK hmF hmH hmM hmD hmR hmB mC mN r0 H locs (F0 m 53 ls [])) : ∀ (mB : Nat → Int64) (x4 : Int32) (H : Heap) (locs : List Loc) (ls : Array Slot), va_P D vwCl [(hmo, .inr (5, [.int mC, .ref hmW, .ref hmP, .ref hmS, .ref hmE, .ref hmI, .ref hmO, .ref hmT, .int mN, .ref hmK, .ref hmF, .ref hmH, .ref hmM, .ref hmD, .ref hmR, .ref hmB])), (hmB, .inl (cy 1, 65536, .inr (.inl mB)))] H → va_D A [(hmo, .inr (5, [.int mC, .ref hmW, .ref hmP, .ref hmS, .ref hmE, .ref hmI, .ref hmO, .ref hmT, .int mN, .ref hmK, .ref hmF, .ref hmH, .ref hmM, .ref hmD, .ref hmR, .ref hmB])), (hmB, .inl (cy 1, 65536, .inr (.inl mB)))] → va_S A s.heap H locs → lv_has ls 6 [(0, .ref hmo), (1, .long x1), (3, .int x3), (4, .int x4)] → fX6_had_B15 N x1 x3 self k mB x4 = some r0 → GX6_had p l e s m args below meth c D cy A hmo hmW hmP hmS hmE hmI hmO hmT hmK hmF hmH hmM hmD hmR hmB mC mN r0 H locs (F0 m 15 ls []) := by
  obtain ⟨⟨hx, hb, hml, hown, hts⟩, hr, hlocks, hB⟩ := id E0
  have hK := hB.1
  have hN := hB.2
  intro mB x4 H locs ls hP hD hS hl hf
  unfold fX6_had_B15 at hf
  refine lv_aload_n hx hb dX6_had_15 rfl (lv_at hl 0 rfl) ?_
  refine va_get (D := D) (ci := 5) (v := .ref hmB) (C := RX6) (T := TX6) (N := 16) hx hb hts inX6_had_X6 hown hK hP 0 rfl rfl 15 (by decide) (hts _ mX6_had_2) (fun _ h9 => h9) rfl dX6_had_16 ?_
  refine lv_iload hx hb dX6_had_19 (lv_at hl 3 rfl) ?_
  obtain ⟨b_1, hf⟩ := ite_n hf
  refine va_lald hx hb hK hP 1 1 rfl rfl b_1 dX6_had_21 ?_
  refine lv_lconst (v := (0 : Int64)) hx hb dX6_had_22 (by decide) ?_
  refine zz_lc_eq (tgt := 53) hx hb dX6_had_23 dX6_had_24 (by decide) (fun c_2 => ?_) (fun c_2 => ?_)
  · have hf := ite_t hf c_2
    exact hk _ _ _ _ _ hP hD hS (lv_sub hl [0, 1, 2, 3] rfl) hf
  · have hf := ite_f hf c_2
    refine lv_aload_n hx hb dX6_had_27 rfl (lv_at hl 0 rfl) ?_
    refine va_get (D := D) (ci := 5) (v := .ref hmB) (C := RX6) (T := TX6) (N := 16) hx hb hts inX6_had_X6 hown hK hP 0 rfl rfl 15 (by decide) (hts _ mX6_had_2) (fun _ h9 => h9) rfl dX6_had_28 ?_
    refine lv_iload hx hb dX6_had_31 (lv_at hl 3 rfl) ?_
    obtain ⟨b_3, hf⟩ := ite_n hf
    refine va_lald hx hb hK hP 1 1 rfl rfl b_3 dX6_had_33 ?_
    refine lv_lload_n hx hb dX6_had_34 rfl (lv_at hl 1 rfl) ?_
    refine lv_lconst (v := (1 : Int64)) hx hb dX6_had_35 (by decide) ?_
    refine lv_ladd hx hb dX6_had_36 ?_
    refine zz_lc_eq (tgt := 53) hx hb dX6_had_37 dX6_had_38 (by decide) (fun c_4 => ?_) (fun c_4 => ?_)
    · have hf := ite_t hf c_4
      exact hk _ _ _ _ _ hP hD hS (lv_sub hl [0, 1, 2, 3] rfl) hf
    · have hf := ite_f hf c_4
      refine lv_iload hx hb dX6_had_41 (lv_at hl 3 rfl) ?_
      refine lv_iconst (v := (1 : Int32)) hx hb dX6_had_43 (by decide) ?_
      refine lv_iadd hx hb dX6_had_44 ?_
      refine lv_ldc (v := (65535 : Int32)) hx hb hown (hts _ mX6_had_3) dX6_had_45 ?_
      refine lv_iand hx hb dX6_had_47 ?_
      refine lv_istore (lv' := [(4, .int ((x4 + (1 : Int32)) &&& (65535 : Int32))), (0, .ref hmo), (1, .long x1), (3, .int x3)]) hx hb dX6_had_48 hl (by decide) rfl (fun ls hl => ?_)
      refine lv_goto (tgt := 15) hx hb dX6_had_50 (by decide) ?_
      exact hself _ _ _ _ _ hP hD hS (lv_sub hl [1, 2, 3, 0] rfl) hf
theorem wX6_had_L15 {p : Program} {l : Launch} {e : Env} {s : State} {m : MethodId} {args : Array Value} {below : List Frame} {meth : Method} {c : Code} {D : va_G} {cy : Nat → ClassId} {A : Nat → Prop} {hmo hmW hmP hmS hmE hmI hmO hmT hmK hmF hmH hmM hmD hmR hmB : Nat} {mC : Int32} {mN : Int32} {r0 : Int32 × (Nat → Int64)} (E0 : En p m c cX6_had 6 s args wsX6_had RX6 meth (some .boolean) D cy) (N : Nat) (x1 : Int64) (x3 : Int32) (hA : ∀ q, s.heap.size ≤ q → A q) (k : (Nat → Int64) → Int32 → Option (Int32 × (Nat → Int64))) (hk : ∀ (mB : Nat → Int64) (x4 : Int32) (H : Heap) (locs : List Loc) (ls : Array Slot), va_P D vwCl [(hmo, .inr (5, [.int mC, .ref hmW, .ref hmP, .ref hmS, .ref hmE, .ref hmI, .ref hmO, .ref hmT, .int mN, .ref hmK, .ref hmF, .ref hmH, .ref hmM, .ref hmD, .ref hmR, .ref hmB])), (hmB, .inl (cy 1, 65536, .inr (.inl mB)))] H → va_D A [(hmo, .inr (5, [.int mC, .ref hmW, .ref hmP, .ref hmS, .ref hmE, .ref hmI, .ref hmO, .ref hmT, .int mN, .ref hmK, .ref hmF, .ref hmH, .ref hmM, .ref hmD, .ref hmR, .ref hmB])), (hmB, .inl (cy 1, 65536, .inr (.inl mB)))] → va_S A s.heap H locs → lv_has ls 6 [(0, .ref hmo), (1, .long x1), (3, .int x3), (4, .int x4)] → k mB x4 = some r0 → GX6_had p l e s m args below meth c D cy A hmo hmW hmP hmS hmE hmI hmO hmT hmK hmF hmH hmM hmD hmR hmB mC mN r0 H locs (F0 m 53 ls [])) : ∀ (n : Nat), ∀ (mB : Nat → Int64) (x4 : Int32) (H : Heap) (locs : List Loc) (ls : Array Slot), va_P D vwCl [(hmo, .inr (5, [.int mC, .ref hmW, .ref hmP, .ref hmS, .ref hmE, .ref hmI, .ref hmO, .ref hmT, .int mN, .ref hmK, .ref hmF, .ref hmH, .ref hmM, .ref hmD, .ref hmR, .ref hmB])), (hmB, .inl (cy 1, 65536, .inr (.inl mB)))] H → va_D A [(hmo, .inr (5, [.int mC, .ref hmW, .ref hmP, .ref hmS, .ref hmE, .ref hmI, .ref hmO, .ref hmT, .int mN, .ref hmK, .ref hmF, .ref hmH, .ref hmM, .ref hmD, .ref hmR, .ref hmB])), (hmB, .inl (cy 1, 65536, .inr (.inl mB)))] → va_S A s.heap H locs → lv_has ls 6 [(0, .ref hmo), (1, .long x1), (3, .int x3), (4, .int x4)] → fX6_had_L15 N x1 x3 k n mB x4 = some r0 → GX6_had p l e s m args below meth c D cy A hmo hmW hmP hmS hmE hmI hmO hmT hmK hmF hmH hmM hmD hmR hmB mC mN r0 H locs (F0 m 15 ls []) := by
  intro n
  induction n with
  | zero => intro mB x4 H locs ls hP hD hS hl hf; cases hf
  | succ n ih => exact wX6_had_B15 E0 N x1 x3 hA _ ih k hk
set_option maxHeartbeats 4000000 in
set_option maxRecDepth 100000 in
theorem ctX6_had (l : Launch) (D : va_G) (cy : Nat → ClassId) (N : Nat) (hmo hmW hmP hmS hmE hmI hmO hmT hmK hmF hmH hmM hmD hmR hmB : Nat) (sz : Nat) (mC : Int32) (mN : Int32) (mB : Nat → Int64) (x1 : Int64) (x3 : Int32) (r0 : Int32 × (Nat → Int64)) (hf : fX6_had N mB x1 x3 = some r0) : Met l yX6_had wsX6_had rX6_had (va_Pc [.ref hmo, .long x1, .int x3] (Wr D cy [(hmo, .inr (5, [.int mC, .ref hmW, .ref hmP, .ref hmS, .ref hmE, .ref hmI, .ref hmO, .ref hmT, .int mN, .ref hmK, .ref hmF, .ref hmH, .ref hmM, .ref hmD, .ref hmR, .ref hmB])), (hmB, .inl (cy 1, 65536, .inr (.inl mB)))] sz)) (Qwi D (va_A [(hmo, .inr (5, [.int mC, .ref hmW, .ref hmP, .ref hmS, .ref hmE, .ref hmI, .ref hmO, .ref hmT, .int mN, .ref hmK, .ref hmF, .ref hmH, .ref hmM, .ref hmD, .ref hmR, .ref hmB])), (hmB, .inl (cy 1, 65536, .inr (.inl mB)))] sz) [(hmo, .inr (5, [.int mC, .ref hmW, .ref hmP, .ref hmS, .ref hmE, .ref hmI, .ref hmO, .ref hmT, .int mN, .ref hmK, .ref hmF, .ref hmH, .ref hmM, .ref hmD, .ref hmR, .ref hmB])), (hmB, .inl (cy 1, 65536, .inr (.inl r0.2)))] r0.1) 0 0 (va_A [(hmo, .inr (5, [.int mC, .ref hmW, .ref hmP, .ref hmS, .ref hmE, .ref hmI, .ref hmO, .ref hmT, .int mN, .ref hmK, .ref hmF, .ref hmH, .ref hmM, .ref hmD, .ref hmR, .ref hmB])), (hmB, .inl (cy 1, 65536, .inr (.inl mB)))] sz) := by
  refine Met.ofW (cc := cX6_had) (maxL := 6) (ret := (some .boolean)) (by decide) rfl ?_
  intro p e s m args below meth c s₁ B hml hv
  obtain ⟨rfl, hsz, hP, hD0, hB⟩ := hv
  have hx := B.exec
  have hb := B.bytes
  have hr := B.returns
  have hts := atoms_spec (ws := wsX6_had) B.pre
  have hown : s.vm.findClass RX6 = some m.cls := findClass_of_methodNamed B.named
  have hlocks := B.notSynchronized
  have hK := hB.1
  have hN := hB.2
  subst hsz
  have hD := hD0.self (sz := s.heap.size)
  have hA : ∀ q : Nat, s.heap.size ≤ q → va_A [(hmo, .inr (5, [.int mC, .ref hmW, .ref hmP, .ref hmS, .ref hmE, .ref hmI, .ref hmO, .ref hmT, .int mN, .ref hmK, .ref hmF, .ref hmH, .ref hmM, .ref hmD, .ref hmR, .ref hmB])), (hmB, .inl (cy 1, 65536, .inr (.inl mB)))] s.heap.size q := fun q h => Or.inr h
  generalize va_A [(hmo, .inr (5, [.int mC, .ref hmW, .ref hmP, .ref hmS, .ref hmE, .ref hmI, .ref hmO, .ref hmT, .int mN, .ref hmK, .ref hmF, .ref hmH, .ref hmM, .ref hmD, .ref hmR, .ref hmB])), (hmB, .inl (cy 1, 65536, .inr (.inl mB)))] s.heap.size = A at hD hA ⊢
  have hS : va_S A s.heap s.heap [] := va_S.rf
  have hl := lv_entry ([.ref hmo, .long x1, .int x3]) (n := 6) (Nat.le_of_ble_eq_true rfl)
  rw [lg_entry_eq]
  generalize (lg_sl ([.ref hmo, .long x1, .int x3]) ++ List.replicate (6 - (lg_sl ([.ref hmo, .long x1, .int x3])).length) Slot.unset).toArray = ls at hl ⊢
  have hl : lv_has ls 6 [(0, .ref hmo), (1, .long x1), (3, .int x3)] := hl
  have E0 : En p m c cX6_had 6 s ([.ref hmo, .long x1, .int x3] : List Value).toArray wsX6_had RX6 meth (some .boolean) D cy := ⟨⟨hx, hb, hml, hown, hts⟩, hr, hlocks, hB⟩
  unfold fX6_had at hf
  refine lv_lload_n hx hb dX6_had_0 rfl (lv_at hl 1 rfl) ?_
  refine lv_ldc2 (v := (2654435761 : Int64)) hx hb hown (hts _ mX6_had_0) dX6_had_1 ?_
  refine lv_lmul hx hb dX6_had_4 ?_
  refine lv_bipush (v := (13 : Int32)) hx hb dX6_had_5 (by decide) ?_
  refine zz_lshr hx hb dX6_had_7 ?_
  refine lv_ldc2 (v := (65535 : Int64)) hx hb hown (hts _ mX6_had_1) dX6_had_8 ?_
  refine lv_land hx hb dX6_had_11 ?_
  refine lv_l2i (v := ((lShr (x1 * (2654435761 : Int64)) (13 : Int32)) &&& (65535 : Int64)).toInt32) hx hb dX6_had_12 rfl ?_
  refine lv_istore (lv' := [(4, .int (((lShr (x1 * (2654435761 : Int64)) (13 : Int32)) &&& (65535 : Int64)).toInt32)), (0, .ref hmo), (1, .long x1), (3, .int x3)]) hx hb dX6_had_13 hl (by decide) rfl (fun ls hl => ?_)
  refine wX6_had_L15 E0 N x1 x3 hA _ (fun mB_5 x4_6 H7 locs8 ls hP hD hS hl hf => ?_) N _ _ _ _ _ hP hD hS (lv_sub hl [1, 2, 3, 0] rfl) hf
  refine lv_aload_n hx hb dX6_had_53 rfl (lv_at hl 0 rfl) ?_
  refine va_get (D := D) (ci := 5) (v := .ref hmB) (C := RX6) (T := TX6) (N := 16) hx hb hts inX6_had_X6 hown hK hP 0 rfl rfl 15 (by decide) (hts _ mX6_had_2) (fun _ h9 => h9) rfl dX6_had_54 ?_
  refine lv_iload hx hb dX6_had_57 (lv_at hl 3 rfl) ?_
  obtain ⟨b_9, hf⟩ := ite_n hf
  refine va_lald hx hb hK hP 1 1 rfl rfl b_9 dX6_had_59 ?_
  refine lv_lconst (v := (0 : Int64)) hx hb dX6_had_60 (by decide) ?_
  refine zz_lc_eq (tgt := 69) hx hb dX6_had_61 dX6_had_62 (by decide) (fun c_10 => ?_) (fun c_10 => ?_)
  · have hf := ite_t hf c_10
    refine lv_iconst (v := (0 : Int32)) hx hb dX6_had_69 (by decide) ?_
    refine lv_istore (lv' := [(5, .int (0 : Int32)), (0, .ref hmo), (1, .long x1), (3, .int x3), (4, .int x4_6)]) hx hb dX6_had_70 hl (by decide) rfl (fun ls hl => ?_)
    refine lv_iload_n hx hb dX6_had_72 rfl (lv_at hl 3 rfl) ?_
    refine lv_if_eq (tgt := 86) hx hb dX6_had_73 (by decide) (fun c_11 => ?_) (fun c_11 => ?_)
    · have hf := ite_t hf c_11
      refine lv_iload hx hb dX6_had_86 (lv_at hl 0 rfl) ?_
      cases hf
      exact W.zret (v := (0 : Int32)) hx hb hr rfl (fun t ht hW => ⟨⟨_, (), rfl, rfl, by rw [ht]; exact hP, hD⟩, hS.F ht⟩) hS.2.2 dX6_had_88
    · have hf := ite_f hf c_11
      refine lv_aload_n hx hb dX6_had_76 rfl (lv_at hl 1 rfl) ?_
      refine va_get (D := D) (ci := 5) (v := .ref hmB) (C := RX6) (T := TX6) (N := 16) hx hb hts inX6_had_X6 hown hK hP 0 rfl rfl 15 (by decide) (hts _ mX6_had_2) (fun _ h9 => h9) rfl dX6_had_77 ?_
      refine lv_iload hx hb dX6_had_80 (lv_at hl 4 rfl) ?_
      refine lv_lload_n hx hb dX6_had_82 rfl (lv_at hl 2 rfl) ?_
      refine lv_lconst (v := (1 : Int64)) hx hb dX6_had_83 (by decide) ?_
      refine lv_ladd hx hb dX6_had_84 ?_
      obtain ⟨b_12, hf⟩ := ite_n hf
      refine va_last hx hb hK hP hD hS 1 1 rfl rfl b_12 dX6_had_85 (fun H13 locs14 hP hD hS => ?_)
      have hP : va_P D vwCl [(hmo, .inr (5, [.int mC, .ref hmW, .ref hmP, .ref hmS, .ref hmE, .ref hmI, .ref hmO, .ref hmT, .int mN, .ref hmK, .ref hmF, .ref hmH, .ref hmM, .ref hmD, .ref hmR, .ref hmB])), (hmB, .inl (cy 1, 65536, .inr (.inl (vp_updL mB_5 x4_6.toNatClampNeg (x1 + (1 : Int64))))))] H13 := hP
      have hD : va_D A [(hmo, .inr (5, [.int mC, .ref hmW, .ref hmP, .ref hmS, .ref hmE, .ref hmI, .ref hmO, .ref hmT, .int mN, .ref hmK, .ref hmF, .ref hmH, .ref hmM, .ref hmD, .ref hmR, .ref hmB])), (hmB, .inl (cy 1, 65536, .inr (.inl (vp_updL mB_5 x4_6.toNatClampNeg (x1 + (1 : Int64))))))] := hD
      refine lv_iload hx hb dX6_had_86 (lv_at hl 0 rfl) ?_
      cases hf
      exact W.zret (v := (0 : Int32)) hx hb hr rfl (fun t ht hW => ⟨⟨_, (), rfl, rfl, by rw [ht]; exact hP, hD⟩, hS.F ht⟩) hS.2.2 dX6_had_88
  · have hf := ite_f hf c_10
    refine lv_iconst (v := (1 : Int32)) hx hb dX6_had_65 (by decide) ?_
    refine lv_goto (tgt := 70) hx hb dX6_had_66 (by decide) ?_
    refine lv_istore (lv' := [(5, .int (1 : Int32)), (0, .ref hmo), (1, .long x1), (3, .int x3), (4, .int x4_6)]) hx hb dX6_had_70 hl (by decide) rfl (fun ls hl => ?_)
    refine lv_iload_n hx hb dX6_had_72 rfl (lv_at hl 3 rfl) ?_
    refine lv_if_eq (tgt := 86) hx hb dX6_had_73 (by decide) (fun c_15 => ?_) (fun c_15 => ?_)
    · have hf := ite_t hf c_15
      refine lv_iload hx hb dX6_had_86 (lv_at hl 0 rfl) ?_
      cases hf
      exact W.zret (v := (1 : Int32)) hx hb hr rfl (fun t ht hW => ⟨⟨_, (), rfl, rfl, by rw [ht]; exact hP, hD⟩, hS.F ht⟩) hS.2.2 dX6_had_88
    · have hf := ite_f hf c_15
      refine lv_aload_n hx hb dX6_had_76 rfl (lv_at hl 1 rfl) ?_
      refine va_get (D := D) (ci := 5) (v := .ref hmB) (C := RX6) (T := TX6) (N := 16) hx hb hts inX6_had_X6 hown hK hP 0 rfl rfl 15 (by decide) (hts _ mX6_had_2) (fun _ h9 => h9) rfl dX6_had_77 ?_
      refine lv_iload hx hb dX6_had_80 (lv_at hl 4 rfl) ?_
      refine lv_lload_n hx hb dX6_had_82 rfl (lv_at hl 2 rfl) ?_
      refine lv_lconst (v := (1 : Int64)) hx hb dX6_had_83 (by decide) ?_
      refine lv_ladd hx hb dX6_had_84 ?_
      obtain ⟨b_16, hf⟩ := ite_n hf
      refine va_last hx hb hK hP hD hS 1 1 rfl rfl b_16 dX6_had_85 (fun H17 locs18 hP hD hS => ?_)
      have hP : va_P D vwCl [(hmo, .inr (5, [.int mC, .ref hmW, .ref hmP, .ref hmS, .ref hmE, .ref hmI, .ref hmO, .ref hmT, .int mN, .ref hmK, .ref hmF, .ref hmH, .ref hmM, .ref hmD, .ref hmR, .ref hmB])), (hmB, .inl (cy 1, 65536, .inr (.inl (vp_updL mB_5 x4_6.toNatClampNeg (x1 + (1 : Int64))))))] H17 := hP
      have hD : va_D A [(hmo, .inr (5, [.int mC, .ref hmW, .ref hmP, .ref hmS, .ref hmE, .ref hmI, .ref hmO, .ref hmT, .int mN, .ref hmK, .ref hmF, .ref hmH, .ref hmM, .ref hmD, .ref hmR, .ref hmB])), (hmB, .inl (cy 1, 65536, .inr (.inl (vp_updL mB_5 x4_6.toNatClampNeg (x1 + (1 : Int64))))))] := hD
      refine lv_iload hx hb dX6_had_86 (lv_at hl 0 rfl) ?_
      cases hf
      exact W.zret (v := (1 : Int32)) hx hb hr rfl (fun t ht hW => ⟨⟨_, (), rfl, rfl, by rw [ht]; exact hP, hD⟩, hS.F ht⟩) hS.2.2 dX6_had_88

/-! SumFormsModel.isSpan(II)Z -/
abbrev rX6_isSpan : Room := { frames := 0, cells := 0, slots := 0, locals := 0 }
theorem mX6_isSpan_0 : Cond.fieldLink RX6 63 "SumFormsModel" "size" "I" ∈ wsX6_isSpan := by decide +kernel
theorem inX6_isSpan_X6 : ∀ w ∈ u_ws RX6 TX6 16, w ∈ wsX6_isSpan := by decide +kernel
abbrev GX6_isSpan (p : Program) (l : Launch) (e : Env) (s : State) (m : MethodId) (args : Array Value) (below : List Frame) (meth : Method) (c : Code) (r0 : Int32) (fr : JFrame) : Prop := W p l e (headSpec wsX6_isSpan rX6_isSpan).room s m args below meth c s.heap [] 0 0 (MQ below (vp_Si (fun r => r = r0)) args s 0 0 (fun _ => False)) fr
def fX6_isSpan (N : Nat) (mN : Int32) (x1 : Int32) (x2 : Int32) : Option (Int32) := (if x1 < 0 then (some (0 : Int32)) else (if x2 < x1 then (some (0 : Int32)) else (if mN < x2 then (some (0 : Int32)) else (some (1 : Int32)))))
set_option maxHeartbeats 4000000 in
set_option maxRecDepth 100000 in
theorem ctX6_isSpan (l : Launch) (D : va_G) (cy : Nat → ClassId) (N : Nat) (hmo hmW hmP hmS hmE hmI hmO hmT hmK hmF hmH hmM hmD hmR hmB : Nat) (mC : Int32) (mN : Int32) (x1 : Int32) (x2 : Int32) (r0 : Int32) (hf : fX6_isSpan N mN x1 x2 = some r0) : Met l yX6_isSpan wsX6_isSpan rX6_isSpan (va_Pc [.ref hmo, .int x1, .int x2] (Rd D cy [(hmo, .inr (5, [.int mC, .ref hmW, .ref hmP, .ref hmS, .ref hmE, .ref hmI, .ref hmO, .ref hmT, .int mN, .ref hmK, .ref hmF, .ref hmH, .ref hmM, .ref hmD, .ref hmR, .ref hmB]))])) (vp_Si (fun r => r = r0)) 0 0 (fun _ => False) := by
  refine Met.ofW (cc := cX6_isSpan) (maxL := 3) (ret := (some .boolean)) (by decide) rfl ?_
  intro p e s m args below meth c s₁ B hml hv
  obtain ⟨rfl, hP, hB⟩ := hv
  have hx := B.exec
  have hb := B.bytes
  have hr := B.returns
  have hts := atoms_spec (ws := wsX6_isSpan) B.pre
  have hown : s.vm.findClass RX6 = some m.cls := findClass_of_methodNamed B.named
  have hlocks := B.notSynchronized
  have hK := hB.1
  have hN := hB.2
  have hl := lv_entry ([.ref hmo, .int x1, .int x2]) (n := 3) (Nat.le_of_ble_eq_true rfl)
  rw [lg_entry_eq]
  generalize (lg_sl ([.ref hmo, .int x1, .int x2]) ++ List.replicate (3 - (lg_sl ([.ref hmo, .int x1, .int x2])).length) Slot.unset).toArray = ls at hl ⊢
  have hl : lv_has ls 3 [(0, .ref hmo), (1, .int x1), (2, .int x2)] := hl
  have E0 : En p m c cX6_isSpan 3 s ([.ref hmo, .int x1, .int x2] : List Value).toArray wsX6_isSpan RX6 meth (some .boolean) D cy := ⟨⟨hx, hb, hml, hown, hts⟩, hr, hlocks, hB⟩
  unfold fX6_isSpan at hf
  refine lv_iload_n hx hb dX6_isSpan_0 rfl (lv_at hl 1 rfl) ?_
  refine lv_if_lt (tgt := 21) hx hb dX6_isSpan_1 (by decide) (fun c_1 => ?_) (fun c_1 => ?_)
  · have hf := ite_t hf c_1
    refine lv_iconst (v := (0 : Int32)) hx hb dX6_isSpan_21 (by decide) ?_
    exact W.zret (v := (0 : Int32)) hx hb hr rfl (fun t ht hW => ⟨_, rfl, Option.some.inj hf, ht⟩) (fun _ h => absurd h List.not_mem_nil) dX6_isSpan_22
  · have hf := ite_f hf c_1
    refine lv_iload_n hx hb dX6_isSpan_4 rfl (lv_at hl 1 rfl) ?_
    refine lv_iload_n hx hb dX6_isSpan_5 rfl (lv_at hl 2 rfl) ?_
    refine lv_icmp_gt (tgt := 21) hx hb dX6_isSpan_6 (by decide) (fun c_2 => ?_) (fun c_2 => ?_)
    · have hf := ite_t hf c_2
      refine lv_iconst (v := (0 : Int32)) hx hb dX6_isSpan_21 (by decide) ?_
      exact W.zret (v := (0 : Int32)) hx hb hr rfl (fun t ht hW => ⟨_, rfl, Option.some.inj hf, ht⟩) (fun _ h => absurd h List.not_mem_nil) dX6_isSpan_22
    · have hf := ite_f hf c_2
      refine lv_iload_n hx hb dX6_isSpan_9 rfl (lv_at hl 2 rfl) ?_
      refine lv_aload_n hx hb dX6_isSpan_10 rfl (lv_at hl 0 rfl) ?_
      refine va_get (D := D) (ci := 5) (v := .int mN) (C := RX6) (T := TX6) (N := 16) hx hb hts inX6_isSpan_X6 hown hK hP 0 rfl rfl 8 (by decide) (hts _ mX6_isSpan_0) (fun _ h9 => h9) rfl dX6_isSpan_11 ?_
      refine lv_icmp_gt (tgt := 21) hx hb dX6_isSpan_14 (by decide) (fun c_3 => ?_) (fun c_3 => ?_)
      · have hf := ite_t hf c_3
        refine lv_iconst (v := (0 : Int32)) hx hb dX6_isSpan_21 (by decide) ?_
        exact W.zret (v := (0 : Int32)) hx hb hr rfl (fun t ht hW => ⟨_, rfl, Option.some.inj hf, ht⟩) (fun _ h => absurd h List.not_mem_nil) dX6_isSpan_22
      · have hf := ite_f hf c_3
        refine lv_iconst (v := (1 : Int32)) hx hb dX6_isSpan_17 (by decide) ?_
        refine lv_goto (tgt := 22) hx hb dX6_isSpan_18 (by decide) ?_
        exact W.zret (v := (1 : Int32)) hx hb hr rfl (fun t ht hW => ⟨_, rfl, Option.some.inj hf, ht⟩) (fun _ h => absurd h List.not_mem_nil) dX6_isSpan_22
/-! SumFormsModel.added(III)J -/
abbrev rX6_added : Room := { frames := 1, cells := 0, slots := 0, locals := 22 }
theorem mX6_added_0 : Cond.constantLong RX6 91 (-1) ∈ wsX6_added := by decide +kernel
theorem mX6_added_1 : Cond.constantLong RX6 66 (255) ∈ wsX6_added := by decide +kernel
theorem mX6_added_2 : Cond.fieldLink RX6 30 "SumFormsModel" "text" "[I" ∈ wsX6_added := by decide +kernel
theorem mX6_added_3 : Cond.constantLong RX6 161 (256) ∈ wsX6_added := by decide +kernel
theorem mX6_added_4 : Cond.constantLong RX6 159 (65536) ∈ wsX6_added := by decide +kernel
theorem mX6_added_5 : Cond.constantLong RX6 157 (65521) ∈ wsX6_added := by decide +kernel
theorem inX6_added_X6 : ∀ w ∈ u_ws RX6 TX6 16, w ∈ wsX6_added := by decide +kernel
abbrev GX6_added (p : Program) (l : Launch) (e : Env) (s : State) (m : MethodId) (args : Array Value) (below : List Frame) (meth : Method) (c : Code) (r0 : Int64) (fr : JFrame) : Prop := W p l e (headSpec wsX6_added rX6_added).room s m args below meth c s.heap [] 0 0 (MQ below (vp_Sl (fun r => r = r0)) args s 0 0 (fun _ => False)) fr
def fX6_added_B49 (N : Nat) (mN : Int32) (mT : Nat → Int32) (x1 : Int32) (x3 : Int32) (x4 : Int64) (self : Int64 → Int64 → Int32 → Option (Int64)) (k : Int64 → Int64 → Option (Int64)) (x6 : Int64) (x8 : Int64) (x10 : Int32) : Option (Int64) := (if x3 ≤ x10 then (k x6 x8) else (if OOB x10 600 then none else (if x4 = 0 then none else (if x4 = 0 then none else (self (lRem (x6 + (mT x10.toNatClampNeg).toInt64) x4) (lRem (x8 + (lRem (x6 + (mT x10.toNatClampNeg).toInt64) x4)) x4) (x10 + (1 : Int32)))))))
def fX6_added_L49 (N : Nat) (mN : Int32) (mT : Nat → Int32) (x1 : Int32) (x3 : Int32) (x4 : Int64) (k : Int64 → Int64 → Option (Int64)) : Nat → Int64 → Int64 → Int32 → Option (Int64)
  | 0 => fun _ _ _ => none
  | n + 1 => fun x6 x8 x10 => fX6_added_B49 N mN mT x1 x3 x4 (fX6_added_L49 N mN mT x1 x3 x4 k n) k x6 x8 x10
def fX6_added_J35 (N : Nat) (mN : Int32) (mT : Nat → Int32) (x1 : Int32) (x2 : Int32) (x3 : Int32)  (y0 : Int64) : Option (Int64) := (fX6_added_L49 N mN mT x1 x3 y0 (fun x6_11 x8_12 => (if x1 = 0 then (some ((x8_12 * (65536 : Int64)) + x6_11)) else (some ((x8_12 * (256 : Int64)) + x6_11)))) N ((1 : Int64) - x1.toInt64) (0 : Int64) x2)
def fX6_added (N : Nat) (mN : Int32) (mT : Nat → Int32) (x1 : Int32) (x2 : Int32) (x3 : Int32) : Option (Int64) := (if x1 < 0 then (some (-1 : Int64)) else (if (1 : Int32) < x1 then (some (-1 : Int64)) else ((fX6_isSpan N mN x2 x3).bind (fun r_3 => (if r_3 = 0 then (some (-1 : Int64)) else (if x1 = 0 then (fX6_added_J35 N mN mT x1 x2 x3 (65521 : Int64)) else (fX6_added_J35 N mN mT x1 x2 x3 (255 : Int64))))))))
set_option maxHeartbeats 4000000 in
set_option maxRecDepth 100000 in
theorem wX6_added_B49 {p : Program} {l : Launch} {e : Env} {s : State} {m : MethodId} {args : Array Value} {below : List Frame} {meth : Method} {c : Code} {D : va_G} {cy : Nat → ClassId} {hmo hmW hmP hmS hmE hmI hmO hmT hmK hmF hmH hmM hmD hmR hmB : Nat} {mC : Int32} {r0 : Int64} (E0 : En p m c cX6_added 11 s args wsX6_added RX6 meth (some .long) D cy) (N : Nat) (mN : Int32) (mT : Nat → Int32) (x1 : Int32) (x3 : Int32) (x4 : Int64) (hP : va_P D vwCl [(hmo, .inr (5, [.int mC, .ref hmW, .ref hmP, .ref hmS, .ref hmE, .ref hmI, .ref hmO, .ref hmT, .int mN, .ref hmK, .ref hmF, .ref hmH, .ref hmM, .ref hmD, .ref hmR, .ref hmB])), (hmT, .inl (cy 0, 600, .inl mT))] s.heap) (self : Int64 → Int64 → Int32 → Option (Int64)) (hself : ∀ (x6 : Int64) (x8 : Int64) (x10 : Int32) (ls : Array Slot), lv_has ls 11 [(0, .ref hmo), (1, .int x1), (3, .int x3), (4, .long x4), (6, .long x6), (8, .long x8), (10, .int x10)] → self x6 x8 x10 = some r0 → GX6_added p l e s m args below meth c r0 (F0 m 49 ls [])) (k : Int64 → Int64 → Option (Int64)) (hk : ∀ (x6 : Int64) (x8 : Int64) (ls : Array Slot), lv_has ls 11 [(1, .int x1), (6, .long x6), (8, .long x8)] → k x6 x8 = some r0 → GX6_added p l e s m args below meth c r0 (F0 m 87 ls [])) : ∀ (x6 : Int64) (x8 : Int64) (x10 : Int32) (ls : Array Slot), lv_has ls 11 [(0, .ref hmo), (1, .int x1), (3, .int x3), (4, .long x4), (6, .long x6), (8, .long x8), (10, .int x10)] → fX6_added_B49 N mN mT x1 x3 x4 self k x6 x8 x10 = some r0 → GX6_added p l e s m args below meth c r0 (F0 m 49 ls []) := by
  obtain ⟨⟨hx, hb, hml, hown, hts⟩, hr, hlocks, hB⟩ := id E0
  have hK := hB.1
  have hN := hB.2
  intro x6 x8 x10 ls hl hf
  unfold fX6_added_B49 at hf
  refine lv_iload hx hb dX6_added_49 (lv_at hl 6 rfl) ?_
  refine lv_iload_n hx hb dX6_added_51 rfl (lv_at hl 2 rfl) ?_
  refine lv_icmp_ge (tgt := 87) hx hb dX6_added_52 (by decide) (fun c_7 => ?_) (fun c_7 => ?_)
  · have hf := ite_t hf c_7
    exact hk _ _ _ (lv_sub hl [1, 4, 5] rfl) hf
  · have hf := ite_f hf c_7
    refine lv_lload hx hb dX6_added_55 (lv_at hl 4 rfl) ?_
    refine lv_aload_n hx hb dX6_added_57 rfl (lv_at hl 0 rfl) ?_
    refine va_get (D := D) (ci := 5) (v := .ref hmT) (C := RX6) (T := TX6) (N := 16) hx hb hts inX6_added_X6 hown hK hP 0 rfl rfl 7 (by decide) (hts _ mX6_added_2) (fun _ h9 => h9) rfl dX6_added_58 ?_
    refine lv_iload hx hb dX6_added_61 (lv_at hl 6 rfl) ?_
    obtain ⟨b_8, hf⟩ := ite_n hf
    refine va_iald hx hb hK hP 1 0 rfl rfl b_8 dX6_added_63 ?_
    refine lv_i2l (v := (mT x10.toNatClampNeg).toInt64) hx hb dX6_added_64 rfl ?_
    refine lv_ladd hx hb dX6_added_65 ?_
    refine lv_lload hx hb dX6_added_66 (lv_at hl 3 rfl) ?_
    obtain ⟨z_9, hf⟩ := ite_n hf
    refine zz_lrem hx hb dX6_added_68 z_9 ?_
    refine lv_lstore (lv' := [(6, .long (lRem (x6 + (mT x10.toNatClampNeg).toInt64) x4)), (0, .ref hmo), (1, .int x1), (3, .int x3), (4, .long x4), (8, .long x8), (10, .int x10)]) hx hb dX6_added_69 hl (by decide) rfl (fun ls hl => ?_)
    refine lv_lload hx hb dX6_added_71 (lv_at hl 5 rfl) ?_
    refine lv_lload hx hb dX6_added_73 (lv_at hl 0 rfl) ?_
    refine lv_ladd hx hb dX6_added_75 ?_
    refine lv_lload hx hb dX6_added_76 (lv_at hl 4 rfl) ?_
    obtain ⟨z_10, hf⟩ := ite_n hf
    refine zz_lrem hx hb dX6_added_78 z_10 ?_
    refine lv_lstore (lv' := [(8, .long (lRem (x8 + (lRem (x6 + (mT x10.toNatClampNeg).toInt64) x4)) x4)), (6, .long (lRem (x6 + (mT x10.toNatClampNeg).toInt64) x4)), (0, .ref hmo), (1, .int x1), (3, .int x3), (4, .long x4), (10, .int x10)]) hx hb dX6_added_79 hl (by decide) rfl (fun ls hl => ?_)
    refine lv_iinc (v := (x10 + (1 : Int32))) (lv' := [(10, .int (x10 + (1 : Int32))), (8, .long (lRem (x8 + (lRem (x6 + (mT x10.toNatClampNeg).toInt64) x4)) x4)), (6, .long (lRem (x6 + (mT x10.toNatClampNeg).toInt64) x4)), (0, .ref hmo), (1, .int x1), (3, .int x3), (4, .long x4)]) hx hb dX6_added_81 hl (k := 6) rfl rfl (by decide) rfl (fun ls hl => ?_)
    refine lv_goto (tgt := 49) hx hb dX6_added_84 (by decide) ?_
    exact hself _ _ _ _ (lv_sub hl [3, 4, 5, 6, 2, 1, 0] rfl) hf
theorem wX6_added_L49 {p : Program} {l : Launch} {e : Env} {s : State} {m : MethodId} {args : Array Value} {below : List Frame} {meth : Method} {c : Code} {D : va_G} {cy : Nat → ClassId} {hmo hmW hmP hmS hmE hmI hmO hmT hmK hmF hmH hmM hmD hmR hmB : Nat} {mC : Int32} {r0 : Int64} (E0 : En p m c cX6_added 11 s args wsX6_added RX6 meth (some .long) D cy) (N : Nat) (mN : Int32) (mT : Nat → Int32) (x1 : Int32) (x3 : Int32) (x4 : Int64) (hP : va_P D vwCl [(hmo, .inr (5, [.int mC, .ref hmW, .ref hmP, .ref hmS, .ref hmE, .ref hmI, .ref hmO, .ref hmT, .int mN, .ref hmK, .ref hmF, .ref hmH, .ref hmM, .ref hmD, .ref hmR, .ref hmB])), (hmT, .inl (cy 0, 600, .inl mT))] s.heap) (k : Int64 → Int64 → Option (Int64)) (hk : ∀ (x6 : Int64) (x8 : Int64) (ls : Array Slot), lv_has ls 11 [(1, .int x1), (6, .long x6), (8, .long x8)] → k x6 x8 = some r0 → GX6_added p l e s m args below meth c r0 (F0 m 87 ls [])) : ∀ (n : Nat), ∀ (x6 : Int64) (x8 : Int64) (x10 : Int32) (ls : Array Slot), lv_has ls 11 [(0, .ref hmo), (1, .int x1), (3, .int x3), (4, .long x4), (6, .long x6), (8, .long x8), (10, .int x10)] → fX6_added_L49 N mN mT x1 x3 x4 k n x6 x8 x10 = some r0 → GX6_added p l e s m args below meth c r0 (F0 m 49 ls []) := by
  intro n
  induction n with
  | zero => intro x6 x8 x10 ls hl hf; cases hf
  | succ n ih => exact wX6_added_B49 E0 N mN mT x1 x3 x4 hP _ ih k hk
set_option maxHeartbeats 4000000 in
set_option maxRecDepth 100000 in
theorem wX6_added_J35 {p : Program} {l : Launch} {e : Env} {s : State} {m : MethodId} {args : Array Value} {below : List Frame} {meth : Method} {c : Code} {D : va_G} {cy : Nat → ClassId} {hmo hmW hmP hmS hmE hmI hmO hmT hmK hmF hmH hmM hmD hmR hmB : Nat} {mC : Int32} {r0 : Int64} (E0 : En p m c cX6_added 11 s args wsX6_added RX6 meth (some .long) D cy) (N : Nat) (mN : Int32) (mT : Nat → Int32) (x1 : Int32) (x2 : Int32) (x3 : Int32) (hP : va_P D vwCl [(hmo, .inr (5, [.int mC, .ref hmW, .ref hmP, .ref hmS, .ref hmE, .ref hmI, .ref hmO, .ref hmT, .int mN, .ref hmK, .ref hmF, .ref hmH, .ref hmM, .ref hmD, .ref hmR, .ref hmB])), (hmT, .inl (cy 0, 600, .inl mT))] s.heap)  : ∀ (y0 : Int64) (ls : Array Slot), lv_has ls 11 [(0, .ref hmo), (1, .int x1), (2, .int x2), (3, .int x3)] → fX6_added_J35 N mN mT x1 x2 x3  y0 = some r0 → GX6_added p l e s m args below meth c r0 (F0 m 35 ls [.long y0]) := by
  obtain ⟨⟨hx, hb, hml, hown, hts⟩, hr, hlocks, hB⟩ := id E0
  have hK := hB.1
  have hN := hB.2
  intro y0 ls hl hf
  unfold fX6_added_J35 at hf
  refine lv_lstore (lv' := [(4, .long y0), (0, .ref hmo), (1, .int x1), (2, .int x2), (3, .int x3)]) hx hb dX6_added_35 hl (by decide) rfl (fun ls hl => ?_)
  refine lv_lconst (v := (1 : Int64)) hx hb dX6_added_37 (by decide) ?_
  refine lv_iload_n hx hb dX6_added_38 rfl (lv_at hl 2 rfl) ?_
  refine lv_i2l (v := x1.toInt64) hx hb dX6_added_39 rfl ?_
  refine lv_lsub hx hb dX6_added_40 ?_
  refine lv_lstore (lv' := [(6, .long ((1 : Int64) - x1.toInt64)), (4, .long y0), (0, .ref hmo), (1, .int x1), (2, .int x2), (3, .int x3)]) hx hb dX6_added_41 hl (by decide) rfl (fun ls hl => ?_)
  refine lv_lconst (v := (0 : Int64)) hx hb dX6_added_43 (by decide) ?_
  refine lv_lstore (lv' := [(8, .long (0 : Int64)), (6, .long ((1 : Int64) - x1.toInt64)), (4, .long y0), (0, .ref hmo), (1, .int x1), (2, .int x2), (3, .int x3)]) hx hb dX6_added_44 hl (by decide) rfl (fun ls hl => ?_)
  refine lv_iload_n hx hb dX6_added_46 rfl (lv_at hl 5 rfl) ?_
  refine lv_istore (lv' := [(10, .int x2), (8, .long (0 : Int64)), (6, .long ((1 : Int64) - x1.toInt64)), (4, .long y0), (0, .ref hmo), (1, .int x1), (2, .int x2), (3, .int x3)]) hx hb dX6_added_47 hl (by decide) rfl (fun ls hl => ?_)
  refine wX6_added_L49 E0 N mN mT x1 x3 y0 hP _ (fun x6_11 x8_12 ls hl hf => ?_) N _ _ _ _ (lv_sub hl [4, 5, 7, 3, 2, 1, 0] rfl) hf
  refine lv_lload hx hb dX6_added_87 (lv_at hl 2 rfl) ?_
  refine lv_iload_n hx hb dX6_added_89 rfl (lv_at hl 0 rfl) ?_
  refine lv_if_ne (tgt := 99) hx hb dX6_added_90 (by decide) (fun c_13 => ?_) (fun c_13 => ?_)
  · have hf := ite_f hf c_13
    refine lv_ldc2 (v := (256 : Int64)) hx hb hown (hts _ mX6_added_3) dX6_added_99 ?_
    refine lv_lmul hx hb dX6_added_102 ?_
    refine lv_lload hx hb dX6_added_103 (lv_at hl 1 rfl) ?_
    refine lv_ladd hx hb dX6_added_105 ?_
    exact W.lret (v := ((x8_12 * (256 : Int64)) + x6_11)) hx hb hr (fun t ht hW => ⟨_, rfl, Option.some.inj hf, ht⟩) (fun _ h => absurd h List.not_mem_nil) dX6_added_106
  · have hf := ite_t hf c_13
    refine lv_ldc2 (v := (65536 : Int64)) hx hb hown (hts _ mX6_added_4) dX6_added_93 ?_
    refine lv_goto (tgt := 102) hx hb dX6_added_96 (by decide) ?_
    refine lv_lmul hx hb dX6_added_102 ?_
    refine lv_lload hx hb dX6_added_103 (lv_at hl 1 rfl) ?_
    refine lv_ladd hx hb dX6_added_105 ?_
    exact W.lret (v := ((x8_12 * (65536 : Int64)) + x6_11)) hx hb hr (fun t ht hW => ⟨_, rfl, Option.some.inj hf, ht⟩) (fun _ h => absurd h List.not_mem_nil) dX6_added_106
set_option maxHeartbeats 4000000 in
set_option maxRecDepth 100000 in
theorem ctX6_added (l : Launch) (D : va_G) (cy : Nat → ClassId) (N : Nat) (hmo hmW hmP hmS hmE hmI hmO hmT hmK hmF hmH hmM hmD hmR hmB : Nat) (mC : Int32) (mN : Int32) (mT : Nat → Int32) (x1 : Int32) (x2 : Int32) (x3 : Int32) (r0 : Int64) (hf : fX6_added N mN mT x1 x2 x3 = some r0) : Met l yX6_added wsX6_added rX6_added (va_Pc [.ref hmo, .int x1, .int x2, .int x3] (Rd D cy [(hmo, .inr (5, [.int mC, .ref hmW, .ref hmP, .ref hmS, .ref hmE, .ref hmI, .ref hmO, .ref hmT, .int mN, .ref hmK, .ref hmF, .ref hmH, .ref hmM, .ref hmD, .ref hmR, .ref hmB])), (hmT, .inl (cy 0, 600, .inl mT))])) (vp_Sl (fun r => r = r0)) 0 0 (fun _ => False) := by
  refine Met.ofW (cc := cX6_added) (maxL := 11) (ret := (some .long)) (by decide) rfl ?_
  intro p e s m args below meth c s₁ B hml hv
  obtain ⟨rfl, hP, hB⟩ := hv
  have hx := B.exec
  have hb := B.bytes
  have hr := B.returns
  have hts := atoms_spec (ws := wsX6_added) B.pre
  have hown : s.vm.findClass RX6 = some m.cls := findClass_of_methodNamed B.named
  have hlocks := B.notSynchronized
  have hK := hB.1
  have hN := hB.2
  have hl := lv_entry ([.ref hmo, .int x1, .int x2, .int x3]) (n := 11) (Nat.le_of_ble_eq_true rfl)
  rw [lg_entry_eq]
  generalize (lg_sl ([.ref hmo, .int x1, .int x2, .int x3]) ++ List.replicate (11 - (lg_sl ([.ref hmo, .int x1, .int x2, .int x3])).length) Slot.unset).toArray = ls at hl ⊢
  have hl : lv_has ls 11 [(0, .ref hmo), (1, .int x1), (2, .int x2), (3, .int x3)] := hl
  have E0 : En p m c cX6_added 11 s ([.ref hmo, .int x1, .int x2, .int x3] : List Value).toArray wsX6_added RX6 meth (some .long) D cy := ⟨⟨hx, hb, hml, hown, hts⟩, hr, hlocks, hB⟩
  unfold fX6_added at hf
  refine lv_iload_n hx hb dX6_added_0 rfl (lv_at hl 1 rfl) ?_
  refine lv_if_lt (tgt := 18) hx hb dX6_added_1 (by decide) (fun c_1 => ?_) (fun c_1 => ?_)
  · have hf := ite_t hf c_1
    refine lv_ldc2 (v := (-1 : Int64)) hx hb hown (hts _ mX6_added_0) dX6_added_18 ?_
    exact W.lret (v := (-1 : Int64)) hx hb hr (fun t ht hW => ⟨_, rfl, Option.some.inj hf, ht⟩) (fun _ h => absurd h List.not_mem_nil) dX6_added_21
  · have hf := ite_f hf c_1
    refine lv_iload_n hx hb dX6_added_4 rfl (lv_at hl 1 rfl) ?_
    refine lv_iconst (v := (1 : Int32)) hx hb dX6_added_5 (by decide) ?_
    refine lv_icmp_gt (tgt := 18) hx hb dX6_added_6 (by decide) (fun c_2 => ?_) (fun c_2 => ?_)
    · have hf := ite_t hf c_2
      refine lv_ldc2 (v := (-1 : Int64)) hx hb hown (hts _ mX6_added_0) dX6_added_18 ?_
      exact W.lret (v := (-1 : Int64)) hx hb hr (fun t ht hW => ⟨_, rfl, Option.some.inj hf, ht⟩) (fun _ h => absurd h List.not_mem_nil) dX6_added_21
    · have hf := ite_f hf c_2
      refine lv_aload_n hx hb dX6_added_9 rfl (lv_at hl 0 rfl) ?_
      refine lv_iload_n hx hb dX6_added_10 rfl (lv_at hl 2 rfl) ?_
      refine lv_iload_n hx hb dX6_added_11 rfl (lv_at hl 3 rfl) ?_
      obtain ⟨r_3, h_4, hf⟩ := bind_some hf
      have hP_r_3 : va_P D vwCl [(hmo, .inr (5, [.int mC, .ref hmW, .ref hmP, .ref hmS, .ref hmE, .ref hmI, .ref hmO, .ref hmT, .int mN, .ref hmK, .ref hmF, .ref hmH, .ref hmM, .ref hmD, .ref hmR, .ref hmB]))] s.heap := hP.sub [0] rfl
      refine cz_i (va_runV (As := [.int x2, .int x3]) (rest := []) ⟨hx, hb, hml, hown, hts⟩ (ctX6_isSpan l D cy N hmo hmW hmP hmS hmE hmI hmO hmT hmK hmF hmH hmM hmD hmR hmB mC mN x2 x3 r_3 h_4) (cwV 2 hts gX6_added_X6_isSpan rfl rfl rfl (by decide +kernel) ⟨Nat.le_of_ble_eq_true rfl, Nat.le_of_ble_eq_true rfl⟩) (preV_rd (ci := 5) (q0 := 0) [.int x2, .int x3] hP_r_3 hB rfl rfl) rfl rfl hl.1 rfl (lv_room (Nat.le_of_ble_eq_true rfl)) dX6_added_12 ⟨Nat.zero_le _, Nat.zero_le _⟩) ?_
      refine lv_if_ne (tgt := 22) hx hb dX6_added_15 (by decide) (fun c_5 => ?_) (fun c_5 => ?_)
      · have hf := ite_f hf c_5
        refine lv_iload_n hx hb dX6_added_22 rfl (lv_at hl 1 rfl) ?_
        refine lv_if_ne (tgt := 32) hx hb dX6_added_23 (by decide) (fun c_6 => ?_) (fun c_6 => ?_)
        · have hf := ite_f hf c_6
          refine lv_ldc2 (v := (255 : Int64)) hx hb hown (hts _ mX6_added_1) dX6_added_32 ?_
          exact wX6_added_J35 E0 N mN mT x1 x2 x3 hP _ _ (lv_sub hl [0, 1, 2, 3] rfl) hf
        · have hf := ite_t hf c_6
          refine lv_ldc2 (v := (65521 : Int64)) hx hb hown (hts _ mX6_added_5) dX6_added_26 ?_
          refine lv_goto (tgt := 35) hx hb dX6_added_29 (by decide) ?_
          exact wX6_added_J35 E0 N mN mT x1 x2 x3 hP _ _ (lv_sub hl [0, 1, 2, 3] rfl) hf
      · have hf := ite_t hf c_5
        refine lv_ldc2 (v := (-1 : Int64)) hx hb hown (hts _ mX6_added_0) dX6_added_18 ?_
        exact W.lret (v := (-1 : Int64)) hx hb hr (fun t ht hW => ⟨_, rfl, Option.some.inj hf, ht⟩) (fun _ h => absurd h List.not_mem_nil) dX6_added_21
/-! SumFormsModel.isAdded(IJ)Z -/
abbrev rX6_isAdded : Room := { frames := 0, cells := 0, slots := 0, locals := 0 }
theorem mX6_isAdded_0 : Cond.constantLong RX6 161 (256) ∈ wsX6_isAdded := by decide +kernel
theorem mX6_isAdded_1 : Cond.constantLong RX6 66 (255) ∈ wsX6_isAdded := by decide +kernel
theorem mX6_isAdded_2 : Cond.constantLong RX6 157 (65521) ∈ wsX6_isAdded := by decide +kernel
theorem mX6_isAdded_3 : Cond.constantLong RX6 159 (65536) ∈ wsX6_isAdded := by decide +kernel
abbrev GX6_isAdded (p : Program) (l : Launch) (e : Env) (s : State) (m : MethodId) (args : Array Value) (below : List Frame) (meth : Method) (c : Code) (r0 : Int32) (fr : JFrame) : Prop := W p l e (headSpec wsX6_isAdded rX6_isAdded).room s m args below meth c s.heap [] 0 0 (MQ below (vp_Si (fun r => r = r0)) args s 0 0 (fun _ => False)) fr
def fX6_isAdded_J27 (N : Nat) (x1 : Int64)  (x3 : Int64) (y0 : Int64) : Option (Int32) := (if x1 < (0 : Int64) then (some (0 : Int32)) else (if x3 = 0 then none else (if y0 ≤ (lRem x1 x3) then (some (0 : Int32)) else (if x3 = 0 then none else (if y0 ≤ (x1 / x3) then (some (0 : Int32)) else (some (1 : Int32)))))))
def fX6_isAdded_J13 (N : Nat) (x0 : Int32) (x1 : Int64)  (y0 : Int64) : Option (Int32) := (if x0 = 0 then (fX6_isAdded_J27 N x1 y0 (65521 : Int64)) else (fX6_isAdded_J27 N x1 y0 (255 : Int64)))
def fX6_isAdded (N : Nat)  (x0 : Int32) (x1 : Int64) : Option (Int32) := (if x0 = 0 then (fX6_isAdded_J13 N x0 x1 (65536 : Int64)) else (fX6_isAdded_J13 N x0 x1 (256 : Int64)))
set_option maxHeartbeats 4000000 in
set_option maxRecDepth 100000 in
theorem wX6_isAdded_J27 {p : Program} {l : Launch} {e : Env} {s : State} {m : MethodId} {args : Array Value} {below : List Frame} {meth : Method} {c : Code} {D : va_G} {cy : Nat → ClassId} {r0 : Int32} (E0 : En p m c cX6_isAdded 7 s args wsX6_isAdded RX6 meth (some .boolean) D cy) (N : Nat) (x1 : Int64) (hP : va_P D vwCl [] s.heap)  : ∀ (x3 : Int64) (y0 : Int64) (ls : Array Slot), lv_has ls 7 [(1, .long x1), (3, .long x3)] → fX6_isAdded_J27 N x1  x3 y0 = some r0 → GX6_isAdded p l e s m args below meth c r0 (F0 m 27 ls [.long y0]) := by
  obtain ⟨⟨hx, hb, hml, hown, hts⟩, hr, hlocks, hB⟩ := id E0
  have hK := hB.1
  have hN := hB.2
  intro x3 y0 ls hl hf
  unfold fX6_isAdded_J27 at hf
  refine lv_lstore (lv' := [(5, .long y0), (1, .long x1), (3, .long x3)]) hx hb dX6_isAdded_27 hl (by decide) rfl (fun ls hl => ?_)
  refine lv_lload_n hx hb dX6_isAdded_29 rfl (lv_at hl 1 rfl) ?_
  refine lv_lconst (v := (0 : Int64)) hx hb dX6_isAdded_30 (by decide) ?_
  refine zz_lc_lt (tgt := 57) hx hb dX6_isAdded_31 dX6_isAdded_32 (by decide) (fun c_3 => ?_) (fun c_3 => ?_)
  · have hf := ite_t hf c_3
    refine lv_iconst (v := (0 : Int32)) hx hb dX6_isAdded_57 (by decide) ?_
    exact W.zret (v := (0 : Int32)) hx hb hr rfl (fun t ht hW => ⟨_, rfl, Option.some.inj hf, ht⟩) (fun _ h => absurd h List.not_mem_nil) dX6_isAdded_58
  · have hf := ite_f hf c_3
    refine lv_lload_n hx hb dX6_isAdded_35 rfl (lv_at hl 1 rfl) ?_
    refine lv_lload_n hx hb dX6_isAdded_36 rfl (lv_at hl 2 rfl) ?_
    obtain ⟨z_4, hf⟩ := ite_n hf
    refine zz_lrem hx hb dX6_isAdded_37 z_4 ?_
    refine lv_lload hx hb dX6_isAdded_38 (lv_at hl 0 rfl) ?_
    refine zz_lc_ge (tgt := 57) hx hb dX6_isAdded_40 dX6_isAdded_41 (by decide) (fun c_5 => ?_) (fun c_5 => ?_)
    · have hf := ite_t hf c_5
      refine lv_iconst (v := (0 : Int32)) hx hb dX6_isAdded_57 (by decide) ?_
      exact W.zret (v := (0 : Int32)) hx hb hr rfl (fun t ht hW => ⟨_, rfl, Option.some.inj hf, ht⟩) (fun _ h => absurd h List.not_mem_nil) dX6_isAdded_58
    · have hf := ite_f hf c_5
      refine lv_lload_n hx hb dX6_isAdded_44 rfl (lv_at hl 1 rfl) ?_
      refine lv_lload_n hx hb dX6_isAdded_45 rfl (lv_at hl 2 rfl) ?_
      obtain ⟨z_6, hf⟩ := ite_n hf
      refine lv_ldiv hx hb dX6_isAdded_46 z_6 ?_
      refine lv_lload hx hb dX6_isAdded_47 (lv_at hl 0 rfl) ?_
      refine zz_lc_ge (tgt := 57) hx hb dX6_isAdded_49 dX6_isAdded_50 (by decide) (fun c_7 => ?_) (fun c_7 => ?_)
      · have hf := ite_t hf c_7
        refine lv_iconst (v := (0 : Int32)) hx hb dX6_isAdded_57 (by decide) ?_
        exact W.zret (v := (0 : Int32)) hx hb hr rfl (fun t ht hW => ⟨_, rfl, Option.some.inj hf, ht⟩) (fun _ h => absurd h List.not_mem_nil) dX6_isAdded_58
      · have hf := ite_f hf c_7
        refine lv_iconst (v := (1 : Int32)) hx hb dX6_isAdded_53 (by decide) ?_
        refine lv_goto (tgt := 58) hx hb dX6_isAdded_54 (by decide) ?_
        exact W.zret (v := (1 : Int32)) hx hb hr rfl (fun t ht hW => ⟨_, rfl, Option.some.inj hf, ht⟩) (fun _ h => absurd h List.not_mem_nil) dX6_isAdded_58
set_option maxHeartbeats 4000000 in
set_option maxRecDepth 100000 in
theorem wX6_isAdded_J13 {p : Program} {l : Launch} {e : Env} {s : State} {m : MethodId} {args : Array Value} {below : List Frame} {meth : Method} {c : Code} {D : va_G} {cy : Nat → ClassId} {r0 : Int32} (E0 : En p m c cX6_isAdded 7 s args wsX6_isAdded RX6 meth (some .boolean) D cy) (N : Nat) (x0 : Int32) (x1 : Int64) (hP : va_P D vwCl [] s.heap)  : ∀ (y0 : Int64) (ls : Array Slot), lv_has ls 7 [(0, .int x0), (1, .long x1)] → fX6_isAdded_J13 N x0 x1  y0 = some r0 → GX6_isAdded p l e s m args below meth c r0 (F0 m 13 ls [.long y0]) := by
  obtain ⟨⟨hx, hb, hml, hown, hts⟩, hr, hlocks, hB⟩ := id E0
  have hK := hB.1
  have hN := hB.2
  intro y0 ls hl hf
  unfold fX6_isAdded_J13 at hf
  refine lv_lstore_n (lv' := [(3, .long y0), (0, .int x0), (1, .long x1)]) hx hb dX6_isAdded_13 rfl hl (by decide) rfl (fun ls hl => ?_)
  refine lv_iload_n hx hb dX6_isAdded_14 rfl (lv_at hl 1 rfl) ?_
  refine lv_if_ne (tgt := 24) hx hb dX6_isAdded_15 (by decide) (fun c_2 => ?_) (fun c_2 => ?_)
  · have hf := ite_f hf c_2
    refine lv_ldc2 (v := (255 : Int64)) hx hb hown (hts _ mX6_isAdded_1) dX6_isAdded_24 ?_
    exact wX6_isAdded_J27 E0 N x1 hP _ _ _ (lv_sub hl [2, 0] rfl) hf
  · have hf := ite_t hf c_2
    refine lv_ldc2 (v := (65521 : Int64)) hx hb hown (hts _ mX6_isAdded_2) dX6_isAdded_18 ?_
    refine lv_goto (tgt := 27) hx hb dX6_isAdded_21 (by decide) ?_
    exact wX6_isAdded_J27 E0 N x1 hP _ _ _ (lv_sub hl [2, 0] rfl) hf
set_option maxHeartbeats 4000000 in
set_option maxRecDepth 100000 in
theorem ctX6_isAdded (l : Launch) (D : va_G) (cy : Nat → ClassId) (N : Nat)  (x0 : Int32) (x1 : Int64) (r0 : Int32) (hf : fX6_isAdded N x0 x1 = some r0) : Met l yX6_isAdded wsX6_isAdded rX6_isAdded (va_Pc [.int x0, .long x1] (Rd D cy [])) (vp_Si (fun r => r = r0)) 0 0 (fun _ => False) := by
  refine Met.ofW (cc := cX6_isAdded) (maxL := 7) (ret := (some .boolean)) (by decide) rfl ?_
  intro p e s m args below meth c s₁ B hml hv
  obtain ⟨rfl, hP, hB⟩ := hv
  have hx := B.exec
  have hb := B.bytes
  have hr := B.returns
  have hts := atoms_spec (ws := wsX6_isAdded) B.pre
  have hown : s.vm.findClass RX6 = some m.cls := findClass_of_methodNamed B.named
  have hlocks := B.notSynchronized
  have hK := hB.1
  have hN := hB.2
  have hl := lv_entry ([.int x0, .long x1]) (n := 7) (Nat.le_of_ble_eq_true rfl)
  rw [lg_entry_eq]
  generalize (lg_sl ([.int x0, .long x1]) ++ List.replicate (7 - (lg_sl ([.int x0, .long x1])).length) Slot.unset).toArray = ls at hl ⊢
  have hl : lv_has ls 7 [(0, .int x0), (1, .long x1)] := hl
  have E0 : En p m c cX6_isAdded 7 s ([.int x0, .long x1] : List Value).toArray wsX6_isAdded RX6 meth (some .boolean) D cy := ⟨⟨hx, hb, hml, hown, hts⟩, hr, hlocks, hB⟩
  unfold fX6_isAdded at hf
  refine lv_iload_n hx hb dX6_isAdded_0 rfl (lv_at hl 0 rfl) ?_
  refine lv_if_ne (tgt := 10) hx hb dX6_isAdded_1 (by decide) (fun c_1 => ?_) (fun c_1 => ?_)
  · have hf := ite_f hf c_1
    refine lv_ldc2 (v := (256 : Int64)) hx hb hown (hts _ mX6_isAdded_0) dX6_isAdded_10 ?_
    exact wX6_isAdded_J13 E0 N x0 x1 hP _ _ (lv_sub hl [0, 1] rfl) hf
  · have hf := ite_t hf c_1
    refine lv_ldc2 (v := (65536 : Int64)) hx hb hown (hts _ mX6_isAdded_3) dX6_isAdded_4 ?_
    refine lv_goto (tgt := 13) hx hb dX6_isAdded_7 (by decide) ?_
    exact wX6_isAdded_J13 E0 N x0 x1 hP _ _ (lv_sub hl [0, 1] rfl) hf
/-! SumFormsModel.isFar(J)Z -/
abbrev rX6_isFar : Room := { frames := 0, cells := 0, slots := 0, locals := 0 }
theorem mX6_isFar_0 : Cond.constantLong RX6 100 (1152921504606846976) ∈ wsX6_isFar := by decide +kernel
abbrev GX6_isFar (p : Program) (l : Launch) (e : Env) (s : State) (m : MethodId) (args : Array Value) (below : List Frame) (meth : Method) (c : Code) (r0 : Int32) (fr : JFrame) : Prop := W p l e (headSpec wsX6_isFar rX6_isFar).room s m args below meth c s.heap [] 0 0 (MQ below (vp_Si (fun r => r = r0)) args s 0 0 (fun _ => False)) fr
def fX6_isFar (N : Nat)  (x0 : Int64) : Option (Int32) := (if x0 < (0 : Int64) then (some (0 : Int32)) else (if (1152921504606846976 : Int64) < x0 then (some (0 : Int32)) else (some (1 : Int32))))
set_option maxHeartbeats 4000000 in
set_option maxRecDepth 100000 in
theorem ctX6_isFar (l : Launch) (D : va_G) (cy : Nat → ClassId) (N : Nat)  (x0 : Int64) (r0 : Int32) (hf : fX6_isFar N x0 = some r0) : Met l yX6_isFar wsX6_isFar rX6_isFar (va_Pc [.long x0] (Rd D cy [])) (vp_Si (fun r => r = r0)) 0 0 (fun _ => False) := by
  refine Met.ofW (cc := cX6_isFar) (maxL := 2) (ret := (some .boolean)) (by decide) rfl ?_
  intro p e s m args below meth c s₁ B hml hv
  obtain ⟨rfl, hP, hB⟩ := hv
  have hx := B.exec
  have hb := B.bytes
  have hr := B.returns
  have hts := atoms_spec (ws := wsX6_isFar) B.pre
  have hown : s.vm.findClass RX6 = some m.cls := findClass_of_methodNamed B.named
  have hlocks := B.notSynchronized
  have hK := hB.1
  have hN := hB.2
  have hl := lv_entry ([.long x0]) (n := 2) (Nat.le_of_ble_eq_true rfl)
  rw [lg_entry_eq]
  generalize (lg_sl ([.long x0]) ++ List.replicate (2 - (lg_sl ([.long x0])).length) Slot.unset).toArray = ls at hl ⊢
  have hl : lv_has ls 2 [(0, .long x0)] := hl
  have E0 : En p m c cX6_isFar 2 s ([.long x0] : List Value).toArray wsX6_isFar RX6 meth (some .boolean) D cy := ⟨⟨hx, hb, hml, hown, hts⟩, hr, hlocks, hB⟩
  unfold fX6_isFar at hf
  refine lv_lload_n hx hb dX6_isFar_0 rfl (lv_at hl 0 rfl) ?_
  refine lv_lconst (v := (0 : Int64)) hx hb dX6_isFar_1 (by decide) ?_
  refine zz_lc_lt (tgt := 18) hx hb dX6_isFar_2 dX6_isFar_3 (by decide) (fun c_1 => ?_) (fun c_1 => ?_)
  · have hf := ite_t hf c_1
    refine lv_iconst (v := (0 : Int32)) hx hb dX6_isFar_18 (by decide) ?_
    exact W.zret (v := (0 : Int32)) hx hb hr rfl (fun t ht hW => ⟨_, rfl, Option.some.inj hf, ht⟩) (fun _ h => absurd h List.not_mem_nil) dX6_isFar_19
  · have hf := ite_f hf c_1
    refine lv_lload_n hx hb dX6_isFar_6 rfl (lv_at hl 0 rfl) ?_
    refine lv_ldc2 (v := (1152921504606846976 : Int64)) hx hb hown (hts _ mX6_isFar_0) dX6_isFar_7 ?_
    refine zz_lc_gt (tgt := 18) hx hb dX6_isFar_10 dX6_isFar_11 (by decide) (fun c_2 => ?_) (fun c_2 => ?_)
    · have hf := ite_t hf c_2
      refine lv_iconst (v := (0 : Int32)) hx hb dX6_isFar_18 (by decide) ?_
      exact W.zret (v := (0 : Int32)) hx hb hr rfl (fun t ht hW => ⟨_, rfl, Option.some.inj hf, ht⟩) (fun _ h => absurd h List.not_mem_nil) dX6_isFar_19
    · have hf := ite_f hf c_2
      refine lv_iconst (v := (1 : Int32)) hx hb dX6_isFar_14 (by decide) ?_
      refine lv_goto (tgt := 19) hx hb dX6_isFar_15 (by decide) ?_
      exact W.zret (v := (1 : Int32)) hx hb hr rfl (fun t ht hW => ⟨_, rfl, Option.some.inj hf, ht⟩) (fun _ h => absurd h List.not_mem_nil) dX6_isFar_19
/-! SumFormsModel.addedJoined(IJJJ)J -/
abbrev rX6_addedJoined : Room := { frames := 1, cells := 0, slots := 0, locals := 26 }
theorem mX6_addedJoined_0 : Cond.constantLong RX6 91 (-1) ∈ wsX6_addedJoined := by decide +kernel
theorem mX6_addedJoined_1 : Cond.constantLong RX6 161 (256) ∈ wsX6_addedJoined := by decide +kernel
theorem mX6_addedJoined_2 : Cond.constantLong RX6 66 (255) ∈ wsX6_addedJoined := by decide +kernel
theorem mX6_addedJoined_3 : Cond.constantLong RX6 157 (65521) ∈ wsX6_addedJoined := by decide +kernel
theorem mX6_addedJoined_4 : Cond.constantLong RX6 159 (65536) ∈ wsX6_addedJoined := by decide +kernel
abbrev GX6_addedJoined (p : Program) (l : Launch) (e : Env) (s : State) (m : MethodId) (args : Array Value) (below : List Frame) (meth : Method) (c : Code) (r0 : Int64) (fr : JFrame) : Prop := W p l e (headSpec wsX6_addedJoined rX6_addedJoined).room s m args below meth c s.heap [] 0 0 (MQ below (vp_Sl (fun r => r = r0)) args s 0 0 (fun _ => False)) fr
def fX6_addedJoined_J66 (N : Nat) (x1 : Int32) (x2 : Int64) (x4 : Int64) (x6 : Int64)  (x8 : Int64) (y0 : Int64) : Option (Int64) := (if x8 = 0 then none else (if x8 = 0 then none else (if y0 = 0 then none else (if y0 = 0 then none else (if x8 = 0 then none else (if y0 = 0 then none else (if y0 = 0 then none else (if x8 = 0 then none else (if x8 = 0 then none else (if y0 = 0 then none else (some (((lRem (((x2 / x8) + (x4 / x8)) + (lRem ((lRem x6 y0) * (lRem (((lRem x2 x8) - ((1 : Int64) - x1.toInt64)) + y0) y0)) y0)) y0) * x8) + (lRem ((((lRem x2 x8) + (lRem x4 x8)) - ((1 : Int64) - x1.toInt64)) + y0) y0)))))))))))))
def fX6_addedJoined_J51 (N : Nat) (x1 : Int32) (x2 : Int64) (x4 : Int64) (x6 : Int64)  (y0 : Int64) : Option (Int64) := (if x1 = 0 then (fX6_addedJoined_J66 N x1 x2 x4 x6 y0 (65521 : Int64)) else (fX6_addedJoined_J66 N x1 x2 x4 x6 y0 (255 : Int64)))
def fX6_addedJoined (N : Nat)  (x1 : Int32) (x2 : Int64) (x4 : Int64) (x6 : Int64) : Option (Int64) := (if x1 < 0 then (some (-1 : Int64)) else (if (1 : Int32) < x1 then (some (-1 : Int64)) else ((fX6_isAdded N x1 x2).bind (fun r_3 => (if r_3 = 0 then (some (-1 : Int64)) else ((fX6_isAdded N x1 x4).bind (fun r_6 => (if r_6 = 0 then (some (-1 : Int64)) else ((fX6_isFar N x6).bind (fun r_9 => (if r_9 = 0 then (some (-1 : Int64)) else (if x1 = 0 then (fX6_addedJoined_J51 N x1 x2 x4 x6 (65536 : Int64)) else (fX6_addedJoined_J51 N x1 x2 x4 x6 (256 : Int64))))))))))))))
set_option maxHeartbeats 4000000 in
set_option maxRecDepth 100000 in
theorem wX6_addedJoined_J66 {p : Program} {l : Launch} {e : Env} {s : State} {m : MethodId} {args : Array Value} {below : List Frame} {meth : Method} {c : Code} {D : va_G} {cy : Nat → ClassId} {hmo hmW hmP hmS hmE hmI hmO hmT hmK hmF hmH hmM hmD hmR hmB : Nat} {mC : Int32} {mN : Int32} {r0 : Int64} (E0 : En p m c cX6_addedJoined 20 s args wsX6_addedJoined RX6 meth (some .long) D cy) (N : Nat) (x1 : Int32) (x2 : Int64) (x4 : Int64) (x6 : Int64) (hP : va_P D vwCl [(hmo, .inr (5, [.int mC, .ref hmW, .ref hmP, .ref hmS, .ref hmE, .ref hmI, .ref hmO, .ref hmT, .int mN, .ref hmK, .ref hmF, .ref hmH, .ref hmM, .ref hmD, .ref hmR, .ref hmB]))] s.heap)  : ∀ (x8 : Int64) (y0 : Int64) (ls : Array Slot), lv_has ls 20 [(1, .int x1), (2, .long x2), (4, .long x4), (6, .long x6), (8, .long x8)] → fX6_addedJoined_J66 N x1 x2 x4 x6  x8 y0 = some r0 → GX6_addedJoined p l e s m args below meth c r0 (F0 m 66 ls [.long y0]) := by
  obtain ⟨⟨hx, hb, hml, hown, hts⟩, hr, hlocks, hB⟩ := id E0
  have hK := hB.1
  have hN := hB.2
  intro x8 y0 ls hl hf
  unfold fX6_addedJoined_J66 at hf
  refine lv_lstore (lv' := [(10, .long y0), (1, .int x1), (2, .long x2), (4, .long x4), (6, .long x6), (8, .long x8)]) hx hb dX6_addedJoined_66 hl (by decide) rfl (fun ls hl => ?_)
  refine lv_lconst (v := (1 : Int64)) hx hb dX6_addedJoined_68 (by decide) ?_
  refine lv_iload_n hx hb dX6_addedJoined_69 rfl (lv_at hl 1 rfl) ?_
  refine lv_i2l (v := x1.toInt64) hx hb dX6_addedJoined_70 rfl ?_
  refine lv_lsub hx hb dX6_addedJoined_71 ?_
  refine lv_lstore (lv' := [(12, .long ((1 : Int64) - x1.toInt64)), (10, .long y0), (1, .int x1), (2, .long x2), (4, .long x4), (6, .long x6), (8, .long x8)]) hx hb dX6_addedJoined_72 hl (by decide) rfl (fun ls hl => ?_)
  refine lv_lload_n hx hb dX6_addedJoined_74 rfl (lv_at hl 3 rfl) ?_
  refine lv_lload hx hb dX6_addedJoined_75 (lv_at hl 6 rfl) ?_
  obtain ⟨z_14, hf⟩ := ite_n hf
  refine zz_lrem hx hb dX6_addedJoined_77 z_14 ?_
  refine lv_lload hx hb dX6_addedJoined_78 (lv_at hl 4 rfl) ?_
  refine lv_lload hx hb dX6_addedJoined_80 (lv_at hl 6 rfl) ?_
  obtain ⟨z_15, hf⟩ := ite_n hf
  refine zz_lrem hx hb dX6_addedJoined_82 z_15 ?_
  refine lv_ladd hx hb dX6_addedJoined_83 ?_
  refine lv_lload hx hb dX6_addedJoined_84 (lv_at hl 0 rfl) ?_
  refine lv_lsub hx hb dX6_addedJoined_86 ?_
  refine lv_lload hx hb dX6_addedJoined_87 (lv_at hl 1 rfl) ?_
  refine lv_ladd hx hb dX6_addedJoined_89 ?_
  refine lv_lload hx hb dX6_addedJoined_90 (lv_at hl 1 rfl) ?_
  obtain ⟨z_16, hf⟩ := ite_n hf
  refine zz_lrem hx hb dX6_addedJoined_92 z_16 ?_
  refine lv_lstore (lv' := [(14, .long (lRem ((((lRem x2 x8) + (lRem x4 x8)) - ((1 : Int64) - x1.toInt64)) + y0) y0)), (12, .long ((1 : Int64) - x1.toInt64)), (10, .long y0), (1, .int x1), (2, .long x2), (4, .long x4), (6, .long x6), (8, .long x8)]) hx hb dX6_addedJoined_93 hl (by decide) rfl (fun ls hl => ?_)
  refine lv_lload hx hb dX6_addedJoined_95 (lv_at hl 6 rfl) ?_
  refine lv_lload hx hb dX6_addedJoined_97 (lv_at hl 2 rfl) ?_
  obtain ⟨z_17, hf⟩ := ite_n hf
  refine zz_lrem hx hb dX6_addedJoined_99 z_17 ?_
  refine lv_lload_n hx hb dX6_addedJoined_100 rfl (lv_at hl 4 rfl) ?_
  refine lv_lload hx hb dX6_addedJoined_101 (lv_at hl 7 rfl) ?_
  obtain ⟨z_18, hf⟩ := ite_n hf
  refine zz_lrem hx hb dX6_addedJoined_103 z_18 ?_
  refine lv_lload hx hb dX6_addedJoined_104 (lv_at hl 1 rfl) ?_
  refine lv_lsub hx hb dX6_addedJoined_106 ?_
  refine lv_lload hx hb dX6_addedJoined_107 (lv_at hl 2 rfl) ?_
  refine lv_ladd hx hb dX6_addedJoined_109 ?_
  refine lv_lload hx hb dX6_addedJoined_110 (lv_at hl 2 rfl) ?_
  obtain ⟨z_19, hf⟩ := ite_n hf
  refine zz_lrem hx hb dX6_addedJoined_112 z_19 ?_
  refine lv_lmul hx hb dX6_addedJoined_113 ?_
  refine lv_lload hx hb dX6_addedJoined_114 (lv_at hl 2 rfl) ?_
  obtain ⟨z_20, hf⟩ := ite_n hf
  refine zz_lrem hx hb dX6_addedJoined_116 z_20 ?_
  refine lv_lstore (lv' := [(16, .long (lRem ((lRem x6 y0) * (lRem (((lRem x2 x8) - ((1 : Int64) - x1.toInt64)) + y0) y0)) y0)), (14, .long (lRem ((((lRem x2 x8) + (lRem x4 x8)) - ((1 : Int64) - x1.toInt64)) + y0) y0)), (12, .long ((1 : Int64) - x1.toInt64)), (10, .long y0), (1, .int x1), (2, .long x2), (4, .long x4), (6, .long x6), (8, .long x8)]) hx hb dX6_addedJoined_117 hl (by decide) rfl (fun ls hl => ?_)
  refine lv_lload_n hx hb dX6_addedJoined_119 rfl (lv_at hl 5 rfl) ?_
  refine lv_lload hx hb dX6_addedJoined_120 (lv_at hl 8 rfl) ?_
  obtain ⟨z_21, hf⟩ := ite_n hf
  refine lv_ldiv hx hb dX6_addedJoined_122 z_21 ?_
  refine lv_lload hx hb dX6_addedJoined_123 (lv_at hl 6 rfl) ?_
  refine lv_lload hx hb dX6_addedJoined_125 (lv_at hl 8 rfl) ?_
  obtain ⟨z_22, hf⟩ := ite_n hf
  refine lv_ldiv hx hb dX6_addedJoined_127 z_22 ?_
  refine lv_ladd hx hb dX6_addedJoined_128 ?_
  refine lv_lload hx hb dX6_addedJoined_129 (lv_at hl 0 rfl) ?_
  refine lv_ladd hx hb dX6_addedJoined_131 ?_
  refine lv_lload hx hb dX6_addedJoined_132 (lv_at hl 3 rfl) ?_
  obtain ⟨z_23, hf⟩ := ite_n hf
  refine zz_lrem hx hb dX6_addedJoined_134 z_23 ?_
  refine lv_lstore (lv' := [(18, .long (lRem (((x2 / x8) + (x4 / x8)) + (lRem ((lRem x6 y0) * (lRem (((lRem x2 x8) - ((1 : Int64) - x1.toInt64)) + y0) y0)) y0)) y0)), (16, .long (lRem ((lRem x6 y0) * (lRem (((lRem x2 x8) - ((1 : Int64) - x1.toInt64)) + y0) y0)) y0)), (14, .long (lRem ((((lRem x2 x8) + (lRem x4 x8)) - ((1 : Int64) - x1.toInt64)) + y0) y0)), (12, .long ((1 : Int64) - x1.toInt64)), (10, .long y0), (1, .int x1), (2, .long x2), (4, .long x4), (6, .long x6), (8, .long x8)]) hx hb dX6_addedJoined_135 hl (by decide) rfl (fun ls hl => ?_)
  refine lv_lload hx hb dX6_addedJoined_137 (lv_at hl 0 rfl) ?_
  refine lv_lload hx hb dX6_addedJoined_139 (lv_at hl 9 rfl) ?_
  refine lv_lmul hx hb dX6_addedJoined_141 ?_
  refine lv_lload hx hb dX6_addedJoined_142 (lv_at hl 2 rfl) ?_
  refine lv_ladd hx hb dX6_addedJoined_144 ?_
  exact W.lret (v := (((lRem (((x2 / x8) + (x4 / x8)) + (lRem ((lRem x6 y0) * (lRem (((lRem x2 x8) - ((1 : Int64) - x1.toInt64)) + y0) y0)) y0)) y0) * x8) + (lRem ((((lRem x2 x8) + (lRem x4 x8)) - ((1 : Int64) - x1.toInt64)) + y0) y0))) hx hb hr (fun t ht hW => ⟨_, rfl, Option.some.inj hf, ht⟩) (fun _ h => absurd h List.not_mem_nil) dX6_addedJoined_145
set_option maxHeartbeats 4000000 in
set_option maxRecDepth 100000 in
theorem wX6_addedJoined_J51 {p : Program} {l : Launch} {e : Env} {s : State} {m : MethodId} {args : Array Value} {below : List Frame} {meth : Method} {c : Code} {D : va_G} {cy : Nat → ClassId} {hmo hmW hmP hmS hmE hmI hmO hmT hmK hmF hmH hmM hmD hmR hmB : Nat} {mC : Int32} {mN : Int32} {r0 : Int64} (E0 : En p m c cX6_addedJoined 20 s args wsX6_addedJoined RX6 meth (some .long) D cy) (N : Nat) (x1 : Int32) (x2 : Int64) (x4 : Int64) (x6 : Int64) (hP : va_P D vwCl [(hmo, .inr (5, [.int mC, .ref hmW, .ref hmP, .ref hmS, .ref hmE, .ref hmI, .ref hmO, .ref hmT, .int mN, .ref hmK, .ref hmF, .ref hmH, .ref hmM, .ref hmD, .ref hmR, .ref hmB]))] s.heap)  : ∀ (y0 : Int64) (ls : Array Slot), lv_has ls 20 [(1, .int x1), (2, .long x2), (4, .long x4), (6, .long x6)] → fX6_addedJoined_J51 N x1 x2 x4 x6  y0 = some r0 → GX6_addedJoined p l e s m args below meth c r0 (F0 m 51 ls [.long y0]) := by
  obtain ⟨⟨hx, hb, hml, hown, hts⟩, hr, hlocks, hB⟩ := id E0
  have hK := hB.1
  have hN := hB.2
  intro y0 ls hl hf
  unfold fX6_addedJoined_J51 at hf
  refine lv_lstore (lv' := [(8, .long y0), (1, .int x1), (2, .long x2), (4, .long x4), (6, .long x6)]) hx hb dX6_addedJoined_51 hl (by decide) rfl (fun ls hl => ?_)
  refine lv_iload_n hx hb dX6_addedJoined_53 rfl (lv_at hl 1 rfl) ?_
  refine lv_if_ne (tgt := 63) hx hb dX6_addedJoined_54 (by decide) (fun c_13 => ?_) (fun c_13 => ?_)
  · have hf := ite_f hf c_13
    refine lv_ldc2 (v := (255 : Int64)) hx hb hown (hts _ mX6_addedJoined_2) dX6_addedJoined_63 ?_
    exact wX6_addedJoined_J66 E0 N x1 x2 x4 x6 hP _ _ _ (lv_sub hl [1, 2, 3, 4, 0] rfl) hf
  · have hf := ite_t hf c_13
    refine lv_ldc2 (v := (65521 : Int64)) hx hb hown (hts _ mX6_addedJoined_3) dX6_addedJoined_57 ?_
    refine lv_goto (tgt := 66) hx hb dX6_addedJoined_60 (by decide) ?_
    exact wX6_addedJoined_J66 E0 N x1 x2 x4 x6 hP _ _ _ (lv_sub hl [1, 2, 3, 4, 0] rfl) hf
set_option maxHeartbeats 4000000 in
set_option maxRecDepth 100000 in
theorem ctX6_addedJoined (l : Launch) (D : va_G) (cy : Nat → ClassId) (N : Nat) (hmo hmW hmP hmS hmE hmI hmO hmT hmK hmF hmH hmM hmD hmR hmB : Nat) (mC : Int32) (mN : Int32) (x1 : Int32) (x2 : Int64) (x4 : Int64) (x6 : Int64) (r0 : Int64) (hf : fX6_addedJoined N x1 x2 x4 x6 = some r0) : Met l yX6_addedJoined wsX6_addedJoined rX6_addedJoined (va_Pc [.ref hmo, .int x1, .long x2, .long x4, .long x6] (Rd D cy [(hmo, .inr (5, [.int mC, .ref hmW, .ref hmP, .ref hmS, .ref hmE, .ref hmI, .ref hmO, .ref hmT, .int mN, .ref hmK, .ref hmF, .ref hmH, .ref hmM, .ref hmD, .ref hmR, .ref hmB]))])) (vp_Sl (fun r => r = r0)) 0 0 (fun _ => False) := by
  refine Met.ofW (cc := cX6_addedJoined) (maxL := 20) (ret := (some .long)) (by decide) rfl ?_
  intro p e s m args below meth c s₁ B hml hv
  obtain ⟨rfl, hP, hB⟩ := hv
  have hx := B.exec
  have hb := B.bytes
  have hr := B.returns
  have hts := atoms_spec (ws := wsX6_addedJoined) B.pre
  have hown : s.vm.findClass RX6 = some m.cls := findClass_of_methodNamed B.named
  have hlocks := B.notSynchronized
  have hK := hB.1
  have hN := hB.2
  have hl := lv_entry ([.ref hmo, .int x1, .long x2, .long x4, .long x6]) (n := 20) (Nat.le_of_ble_eq_true rfl)
  rw [lg_entry_eq]
  generalize (lg_sl ([.ref hmo, .int x1, .long x2, .long x4, .long x6]) ++ List.replicate (20 - (lg_sl ([.ref hmo, .int x1, .long x2, .long x4, .long x6])).length) Slot.unset).toArray = ls at hl ⊢
  have hl : lv_has ls 20 [(0, .ref hmo), (1, .int x1), (2, .long x2), (4, .long x4), (6, .long x6)] := hl
  have E0 : En p m c cX6_addedJoined 20 s ([.ref hmo, .int x1, .long x2, .long x4, .long x6] : List Value).toArray wsX6_addedJoined RX6 meth (some .long) D cy := ⟨⟨hx, hb, hml, hown, hts⟩, hr, hlocks, hB⟩
  unfold fX6_addedJoined at hf
  refine lv_iload_n hx hb dX6_addedJoined_0 rfl (lv_at hl 1 rfl) ?_
  refine lv_if_lt (tgt := 34) hx hb dX6_addedJoined_1 (by decide) (fun c_1 => ?_) (fun c_1 => ?_)
  · have hf := ite_t hf c_1
    refine lv_ldc2 (v := (-1 : Int64)) hx hb hown (hts _ mX6_addedJoined_0) dX6_addedJoined_34 ?_
    exact W.lret (v := (-1 : Int64)) hx hb hr (fun t ht hW => ⟨_, rfl, Option.some.inj hf, ht⟩) (fun _ h => absurd h List.not_mem_nil) dX6_addedJoined_37
  · have hf := ite_f hf c_1
    refine lv_iload_n hx hb dX6_addedJoined_4 rfl (lv_at hl 1 rfl) ?_
    refine lv_iconst (v := (1 : Int32)) hx hb dX6_addedJoined_5 (by decide) ?_
    refine lv_icmp_gt (tgt := 34) hx hb dX6_addedJoined_6 (by decide) (fun c_2 => ?_) (fun c_2 => ?_)
    · have hf := ite_t hf c_2
      refine lv_ldc2 (v := (-1 : Int64)) hx hb hown (hts _ mX6_addedJoined_0) dX6_addedJoined_34 ?_
      exact W.lret (v := (-1 : Int64)) hx hb hr (fun t ht hW => ⟨_, rfl, Option.some.inj hf, ht⟩) (fun _ h => absurd h List.not_mem_nil) dX6_addedJoined_37
    · have hf := ite_f hf c_2
      refine lv_iload_n hx hb dX6_addedJoined_9 rfl (lv_at hl 1 rfl) ?_
      refine lv_lload_n hx hb dX6_addedJoined_10 rfl (lv_at hl 2 rfl) ?_
      obtain ⟨r_3, h_4, hf⟩ := bind_some hf
      have hP_r_3 : va_P D vwCl [] s.heap := hP.sub [] rfl
      refine cz_i (va_runS (As := [.int x1, .long x2]) (rest := []) ⟨hx, hb, hml, hown, hts⟩ (ctX6_isAdded l D cy N   x1 x2 r_3 h_4) (va_cwS 2 hts gX6_addedJoined_X6_isAdded rfl rfl rfl (by decide +kernel) ⟨Nat.le_of_ble_eq_true rfl, Nat.le_of_ble_eq_true rfl⟩) (preS_rd [.int x1, .long x2] hP_r_3 hB) rfl rfl hl.1 rfl (lv_room (Nat.le_of_ble_eq_true rfl)) dX6_addedJoined_11 ⟨Nat.zero_le _, Nat.zero_le _⟩) ?_
      refine lv_if_eq (tgt := 34) hx hb dX6_addedJoined_14 (by decide) (fun c_5 => ?_) (fun c_5 => ?_)
      · have hf := ite_t hf c_5
        refine lv_ldc2 (v := (-1 : Int64)) hx hb hown (hts _ mX6_addedJoined_0) dX6_addedJoined_34 ?_
        exact W.lret (v := (-1 : Int64)) hx hb hr (fun t ht hW => ⟨_, rfl, Option.some.inj hf, ht⟩) (fun _ h => absurd h List.not_mem_nil) dX6_addedJoined_37
      · have hf := ite_f hf c_5
        refine lv_iload_n hx hb dX6_addedJoined_17 rfl (lv_at hl 1 rfl) ?_
        refine lv_lload hx hb dX6_addedJoined_18 (lv_at hl 3 rfl) ?_
        obtain ⟨r_6, h_7, hf⟩ := bind_some hf
        have hP_r_6 : va_P D vwCl [] s.heap := hP.sub [] rfl
        refine cz_i (va_runS (As := [.int x1, .long x4]) (rest := []) ⟨hx, hb, hml, hown, hts⟩ (ctX6_isAdded l D cy N   x1 x4 r_6 h_7) (va_cwS 2 hts gX6_addedJoined_X6_isAdded rfl rfl rfl (by decide +kernel) ⟨Nat.le_of_ble_eq_true rfl, Nat.le_of_ble_eq_true rfl⟩) (preS_rd [.int x1, .long x4] hP_r_6 hB) rfl rfl hl.1 rfl (lv_room (Nat.le_of_ble_eq_true rfl)) dX6_addedJoined_20 ⟨Nat.zero_le _, Nat.zero_le _⟩) ?_
        refine lv_if_eq (tgt := 34) hx hb dX6_addedJoined_23 (by decide) (fun c_8 => ?_) (fun c_8 => ?_)
        · have hf := ite_t hf c_8
          refine lv_ldc2 (v := (-1 : Int64)) hx hb hown (hts _ mX6_addedJoined_0) dX6_addedJoined_34 ?_
          exact W.lret (v := (-1 : Int64)) hx hb hr (fun t ht hW => ⟨_, rfl, Option.some.inj hf, ht⟩) (fun _ h => absurd h List.not_mem_nil) dX6_addedJoined_37
        · have hf := ite_f hf c_8
          refine lv_lload hx hb dX6_addedJoined_26 (lv_at hl 4 rfl) ?_
          obtain ⟨r_9, h_10, hf⟩ := bind_some hf
          have hP_r_9 : va_P D vwCl [] s.heap := hP.sub [] rfl
          refine cz_i (va_runS (As := [.long x6]) (rest := []) ⟨hx, hb, hml, hown, hts⟩ (ctX6_isFar l D cy N   x6 r_9 h_10) (va_cwS 1 hts gX6_addedJoined_X6_isFar rfl rfl rfl (by decide +kernel) ⟨Nat.le_of_ble_eq_true rfl, Nat.le_of_ble_eq_true rfl⟩) (preS_rd [.long x6] hP_r_9 hB) rfl rfl hl.1 rfl (lv_room (Nat.le_of_ble_eq_true rfl)) dX6_addedJoined_28 ⟨Nat.zero_le _, Nat.zero_le _⟩) ?_
          refine lv_if_ne (tgt := 38) hx hb dX6_addedJoined_31 (by decide) (fun c_11 => ?_) (fun c_11 => ?_)
          · have hf := ite_f hf c_11
            refine lv_iload_n hx hb dX6_addedJoined_38 rfl (lv_at hl 1 rfl) ?_
            refine lv_if_ne (tgt := 48) hx hb dX6_addedJoined_39 (by decide) (fun c_12 => ?_) (fun c_12 => ?_)
            · have hf := ite_f hf c_12
              refine lv_ldc2 (v := (256 : Int64)) hx hb hown (hts _ mX6_addedJoined_1) dX6_addedJoined_48 ?_
              exact wX6_addedJoined_J51 E0 N x1 x2 x4 x6 hP _ _ (lv_sub hl [1, 2, 3, 4] rfl) hf
            · have hf := ite_t hf c_12
              refine lv_ldc2 (v := (65536 : Int64)) hx hb hown (hts _ mX6_addedJoined_4) dX6_addedJoined_42 ?_
              refine lv_goto (tgt := 51) hx hb dX6_addedJoined_45 (by decide) ?_
              exact wX6_addedJoined_J51 E0 N x1 x2 x4 x6 hP _ _ (lv_sub hl [1, 2, 3, 4] rfl) hf
          · have hf := ite_t hf c_11
            refine lv_ldc2 (v := (-1 : Int64)) hx hb hown (hts _ mX6_addedJoined_0) dX6_addedJoined_34 ?_
            exact W.lret (v := (-1 : Int64)) hx hb hr (fun t ht hW => ⟨_, rfl, Option.some.inj hf, ht⟩) (fun _ h => absurd h List.not_mem_nil) dX6_addedJoined_37
/-! SumFormsModel.isForm(I)Z -/
abbrev rX6_isForm : Room := { frames := 0, cells := 0, slots := 0, locals := 0 }
theorem mX6_isForm_0 : Cond.fieldLink RX6 59 "SumFormsModel" "forms" "I" ∈ wsX6_isForm := by decide +kernel
theorem inX6_isForm_X6 : ∀ w ∈ u_ws RX6 TX6 16, w ∈ wsX6_isForm := by decide +kernel
abbrev GX6_isForm (p : Program) (l : Launch) (e : Env) (s : State) (m : MethodId) (args : Array Value) (below : List Frame) (meth : Method) (c : Code) (r0 : Int32) (fr : JFrame) : Prop := W p l e (headSpec wsX6_isForm rX6_isForm).room s m args below meth c s.heap [] 0 0 (MQ below (vp_Si (fun r => r = r0)) args s 0 0 (fun _ => False)) fr
def fX6_isForm (N : Nat) (mC : Int32) (x1 : Int32) : Option (Int32) := (if x1 < 0 then (some (0 : Int32)) else (if mC ≤ x1 then (some (0 : Int32)) else (some (1 : Int32))))
set_option maxHeartbeats 4000000 in
set_option maxRecDepth 100000 in
theorem ctX6_isForm (l : Launch) (D : va_G) (cy : Nat → ClassId) (N : Nat) (hmo hmW hmP hmS hmE hmI hmO hmT hmK hmF hmH hmM hmD hmR hmB : Nat) (mC : Int32) (mN : Int32) (x1 : Int32) (r0 : Int32) (hf : fX6_isForm N mC x1 = some r0) : Met l yX6_isForm wsX6_isForm rX6_isForm (va_Pc [.ref hmo, .int x1] (Rd D cy [(hmo, .inr (5, [.int mC, .ref hmW, .ref hmP, .ref hmS, .ref hmE, .ref hmI, .ref hmO, .ref hmT, .int mN, .ref hmK, .ref hmF, .ref hmH, .ref hmM, .ref hmD, .ref hmR, .ref hmB]))])) (vp_Si (fun r => r = r0)) 0 0 (fun _ => False) := by
  refine Met.ofW (cc := cX6_isForm) (maxL := 2) (ret := (some .boolean)) (by decide) rfl ?_
  intro p e s m args below meth c s₁ B hml hv
  obtain ⟨rfl, hP, hB⟩ := hv
  have hx := B.exec
  have hb := B.bytes
  have hr := B.returns
  have hts := atoms_spec (ws := wsX6_isForm) B.pre
  have hown : s.vm.findClass RX6 = some m.cls := findClass_of_methodNamed B.named
  have hlocks := B.notSynchronized
  have hK := hB.1
  have hN := hB.2
  have hl := lv_entry ([.ref hmo, .int x1]) (n := 2) (Nat.le_of_ble_eq_true rfl)
  rw [lg_entry_eq]
  generalize (lg_sl ([.ref hmo, .int x1]) ++ List.replicate (2 - (lg_sl ([.ref hmo, .int x1])).length) Slot.unset).toArray = ls at hl ⊢
  have hl : lv_has ls 2 [(0, .ref hmo), (1, .int x1)] := hl
  have E0 : En p m c cX6_isForm 2 s ([.ref hmo, .int x1] : List Value).toArray wsX6_isForm RX6 meth (some .boolean) D cy := ⟨⟨hx, hb, hml, hown, hts⟩, hr, hlocks, hB⟩
  unfold fX6_isForm at hf
  refine lv_iload_n hx hb dX6_isForm_0 rfl (lv_at hl 1 rfl) ?_
  refine lv_if_lt (tgt := 16) hx hb dX6_isForm_1 (by decide) (fun c_1 => ?_) (fun c_1 => ?_)
  · have hf := ite_t hf c_1
    refine lv_iconst (v := (0 : Int32)) hx hb dX6_isForm_16 (by decide) ?_
    exact W.zret (v := (0 : Int32)) hx hb hr rfl (fun t ht hW => ⟨_, rfl, Option.some.inj hf, ht⟩) (fun _ h => absurd h List.not_mem_nil) dX6_isForm_17
  · have hf := ite_f hf c_1
    refine lv_iload_n hx hb dX6_isForm_4 rfl (lv_at hl 1 rfl) ?_
    refine lv_aload_n hx hb dX6_isForm_5 rfl (lv_at hl 0 rfl) ?_
    refine va_get (D := D) (ci := 5) (v := .int mC) (C := RX6) (T := TX6) (N := 16) hx hb hts inX6_isForm_X6 hown hK hP 0 rfl rfl 0 (by decide) (hts _ mX6_isForm_0) (fun _ h9 => h9) rfl dX6_isForm_6 ?_
    refine lv_icmp_ge (tgt := 16) hx hb dX6_isForm_9 (by decide) (fun c_2 => ?_) (fun c_2 => ?_)
    · have hf := ite_t hf c_2
      refine lv_iconst (v := (0 : Int32)) hx hb dX6_isForm_16 (by decide) ?_
      exact W.zret (v := (0 : Int32)) hx hb hr rfl (fun t ht hW => ⟨_, rfl, Option.some.inj hf, ht⟩) (fun _ h => absurd h List.not_mem_nil) dX6_isForm_17
    · have hf := ite_f hf c_2
      refine lv_iconst (v := (1 : Int32)) hx hb dX6_isForm_12 (by decide) ?_
      refine lv_goto (tgt := 17) hx hb dX6_isForm_13 (by decide) ?_
      exact W.zret (v := (1 : Int32)) hx hb hr rfl (fun t ht hW => ⟨_, rfl, Option.some.inj hf, ht⟩) (fun _ h => absurd h List.not_mem_nil) dX6_isForm_17
/-! SumFormsModel.isOf(IJ)Z -/
abbrev rX6_isOf : Room := { frames := 0, cells := 0, slots := 0, locals := 0 }
abbrev GX6_isOf (p : Program) (l : Launch) (e : Env) (s : State) (m : MethodId) (args : Array Value) (below : List Frame) (meth : Method) (c : Code) (r0 : Int32) (fr : JFrame) : Prop := W p l e (headSpec wsX6_isOf rX6_isOf).room s m args below meth c s.heap [] 0 0 (MQ below (vp_Si (fun r => r = r0)) args s 0 0 (fun _ => False)) fr
def fX6_isOf (N : Nat)  (x0 : Int32) (x1 : Int64) : Option (Int32) := (if x1 < (0 : Int64) then (some (0 : Int32)) else (if (lShl (1 : Int64) x0) ≤ x1 then (some (0 : Int32)) else (some (1 : Int32))))
set_option maxHeartbeats 4000000 in
set_option maxRecDepth 100000 in
theorem ctX6_isOf (l : Launch) (D : va_G) (cy : Nat → ClassId) (N : Nat)  (x0 : Int32) (x1 : Int64) (r0 : Int32) (hf : fX6_isOf N x0 x1 = some r0) : Met l yX6_isOf wsX6_isOf rX6_isOf (va_Pc [.int x0, .long x1] (Rd D cy [])) (vp_Si (fun r => r = r0)) 0 0 (fun _ => False) := by
  refine Met.ofW (cc := cX6_isOf) (maxL := 3) (ret := (some .boolean)) (by decide) rfl ?_
  intro p e s m args below meth c s₁ B hml hv
  obtain ⟨rfl, hP, hB⟩ := hv
  have hx := B.exec
  have hb := B.bytes
  have hr := B.returns
  have hts := atoms_spec (ws := wsX6_isOf) B.pre
  have hown : s.vm.findClass RX6 = some m.cls := findClass_of_methodNamed B.named
  have hlocks := B.notSynchronized
  have hK := hB.1
  have hN := hB.2
  have hl := lv_entry ([.int x0, .long x1]) (n := 3) (Nat.le_of_ble_eq_true rfl)
  rw [lg_entry_eq]
  generalize (lg_sl ([.int x0, .long x1]) ++ List.replicate (3 - (lg_sl ([.int x0, .long x1])).length) Slot.unset).toArray = ls at hl ⊢
  have hl : lv_has ls 3 [(0, .int x0), (1, .long x1)] := hl
  have E0 : En p m c cX6_isOf 3 s ([.int x0, .long x1] : List Value).toArray wsX6_isOf RX6 meth (some .boolean) D cy := ⟨⟨hx, hb, hml, hown, hts⟩, hr, hlocks, hB⟩
  unfold fX6_isOf at hf
  refine lv_lload_n hx hb dX6_isOf_0 rfl (lv_at hl 1 rfl) ?_
  refine lv_lconst (v := (0 : Int64)) hx hb dX6_isOf_1 (by decide) ?_
  refine zz_lc_lt (tgt := 18) hx hb dX6_isOf_2 dX6_isOf_3 (by decide) (fun c_1 => ?_) (fun c_1 => ?_)
  · have hf := ite_t hf c_1
    refine lv_iconst (v := (0 : Int32)) hx hb dX6_isOf_18 (by decide) ?_
    exact W.zret (v := (0 : Int32)) hx hb hr rfl (fun t ht hW => ⟨_, rfl, Option.some.inj hf, ht⟩) (fun _ h => absurd h List.not_mem_nil) dX6_isOf_19
  · have hf := ite_f hf c_1
    refine lv_lload_n hx hb dX6_isOf_6 rfl (lv_at hl 1 rfl) ?_
    refine lv_lconst (v := (1 : Int64)) hx hb dX6_isOf_7 (by decide) ?_
    refine lv_iload_n hx hb dX6_isOf_8 rfl (lv_at hl 0 rfl) ?_
    refine zz_lshl hx hb dX6_isOf_9 ?_
    refine zz_lc_ge (tgt := 18) hx hb dX6_isOf_10 dX6_isOf_11 (by decide) (fun c_2 => ?_) (fun c_2 => ?_)
    · have hf := ite_t hf c_2
      refine lv_iconst (v := (0 : Int32)) hx hb dX6_isOf_18 (by decide) ?_
      exact W.zret (v := (0 : Int32)) hx hb hr rfl (fun t ht hW => ⟨_, rfl, Option.some.inj hf, ht⟩) (fun _ h => absurd h List.not_mem_nil) dX6_isOf_19
    · have hf := ite_f hf c_2
      refine lv_iconst (v := (1 : Int32)) hx hb dX6_isOf_14 (by decide) ?_
      refine lv_goto (tgt := 19) hx hb dX6_isOf_15 (by decide) ?_
      exact W.zret (v := (1 : Int32)) hx hb hr rfl (fun t ht hW => ⟨_, rfl, Option.some.inj hf, ht⟩) (fun _ h => absurd h List.not_mem_nil) dX6_isOf_19
/-! SumFormsModel.isSum(IJ)Z -/
abbrev rX6_isSum : Room := { frames := 1, cells := 0, slots := 0, locals := 22 }
theorem mX6_isSum_0 : Cond.fieldLink RX6 7 "SumFormsModel" "width" "[I" ∈ wsX6_isSum := by decide +kernel
theorem inX6_isSum_X6 : ∀ w ∈ u_ws RX6 TX6 16, w ∈ wsX6_isSum := by decide +kernel
abbrev GX6_isSum (p : Program) (l : Launch) (e : Env) (s : State) (m : MethodId) (args : Array Value) (below : List Frame) (meth : Method) (c : Code) (r0 : Int32) (fr : JFrame) : Prop := W p l e (headSpec wsX6_isSum rX6_isSum).room s m args below meth c s.heap [] 0 0 (MQ below (vp_Si (fun r => r = r0)) args s 0 0 (fun _ => False)) fr
def fX6_isSum (N : Nat) (mC : Int32) (mW : Nat → Int32) (x1 : Int32) (x2 : Int64) : Option (Int32) := ((fX6_isForm N mC x1).bind (fun r_1 => (if r_1 = 0 then (some (0 : Int32)) else (if OOB x1 8 then none else ((fX6_isOf N (mW x1.toNatClampNeg) x2).bind (fun r_5 => (if r_5 = 0 then (some (0 : Int32)) else (some (1 : Int32)))))))))
set_option maxHeartbeats 4000000 in
set_option maxRecDepth 100000 in
theorem ctX6_isSum (l : Launch) (D : va_G) (cy : Nat → ClassId) (N : Nat) (hmo hmW hmP hmS hmE hmI hmO hmT hmK hmF hmH hmM hmD hmR hmB : Nat) (mC : Int32) (mN : Int32) (mW : Nat → Int32) (x1 : Int32) (x2 : Int64) (r0 : Int32) (hf : fX6_isSum N mC mW x1 x2 = some r0) : Met l yX6_isSum wsX6_isSum rX6_isSum (va_Pc [.ref hmo, .int x1, .long x2] (Rd D cy [(hmo, .inr (5, [.int mC, .ref hmW, .ref hmP, .ref hmS, .ref hmE, .ref hmI, .ref hmO, .ref hmT, .int mN, .ref hmK, .ref hmF, .ref hmH, .ref hmM, .ref hmD, .ref hmR, .ref hmB])), (hmW, .inl (cy 0, 8, .inl mW))])) (vp_Si (fun r => r = r0)) 0 0 (fun _ => False) := by
  refine Met.ofW (cc := cX6_isSum) (maxL := 4) (ret := (some .boolean)) (by decide) rfl ?_
  intro p e s m args below meth c s₁ B hml hv
  obtain ⟨rfl, hP, hB⟩ := hv
  have hx := B.exec
  have hb := B.bytes
  have hr := B.returns
  have hts := atoms_spec (ws := wsX6_isSum) B.pre
  have hown : s.vm.findClass RX6 = some m.cls := findClass_of_methodNamed B.named
  have hlocks := B.notSynchronized
  have hK := hB.1
  have hN := hB.2
  have hl := lv_entry ([.ref hmo, .int x1, .long x2]) (n := 4) (Nat.le_of_ble_eq_true rfl)
  rw [lg_entry_eq]
  generalize (lg_sl ([.ref hmo, .int x1, .long x2]) ++ List.replicate (4 - (lg_sl ([.ref hmo, .int x1, .long x2])).length) Slot.unset).toArray = ls at hl ⊢
  have hl : lv_has ls 4 [(0, .ref hmo), (1, .int x1), (2, .long x2)] := hl
  have E0 : En p m c cX6_isSum 4 s ([.ref hmo, .int x1, .long x2] : List Value).toArray wsX6_isSum RX6 meth (some .boolean) D cy := ⟨⟨hx, hb, hml, hown, hts⟩, hr, hlocks, hB⟩
  unfold fX6_isSum at hf
  refine lv_aload_n hx hb dX6_isSum_0 rfl (lv_at hl 0 rfl) ?_
  refine lv_iload_n hx hb dX6_isSum_1 rfl (lv_at hl 1 rfl) ?_
  obtain ⟨r_1, h_2, hf⟩ := bind_some hf
  have hP_r_1 : va_P D vwCl [(hmo, .inr (5, [.int mC, .ref hmW, .ref hmP, .ref hmS, .ref hmE, .ref hmI, .ref hmO, .ref hmT, .int mN, .ref hmK, .ref hmF, .ref hmH, .ref hmM, .ref hmD, .ref hmR, .ref hmB]))] s.heap := hP.sub [0] rfl
  refine cz_i (va_runV (As := [.int x1]) (rest := []) ⟨hx, hb, hml, hown, hts⟩ (ctX6_isForm l D cy N hmo hmW hmP hmS hmE hmI hmO hmT hmK hmF hmH hmM hmD hmR hmB mC mN x1 r_1 h_2) (cwV 1 hts gX6_isSum_X6_isForm rfl rfl rfl (by decide +kernel) ⟨Nat.le_of_ble_eq_true rfl, Nat.le_of_ble_eq_true rfl⟩) (preV_rd (ci := 5) (q0 := 0) [.int x1] hP_r_1 hB rfl rfl) rfl rfl hl.1 rfl (lv_room (Nat.le_of_ble_eq_true rfl)) dX6_isSum_2 ⟨Nat.zero_le _, Nat.zero_le _⟩) ?_
  refine lv_if_eq (tgt := 25) hx hb dX6_isSum_5 (by decide) (fun c_3 => ?_) (fun c_3 => ?_)
  · have hf := ite_t hf c_3
    refine lv_iconst (v := (0 : Int32)) hx hb dX6_isSum_25 (by decide) ?_
    exact W.zret (v := (0 : Int32)) hx hb hr rfl (fun t ht hW => ⟨_, rfl, Option.some.inj hf, ht⟩) (fun _ h => absurd h List.not_mem_nil) dX6_isSum_26
  · have hf := ite_f hf c_3
    refine lv_aload_n hx hb dX6_isSum_8 rfl (lv_at hl 0 rfl) ?_
    refine va_get (D := D) (ci := 5) (v := .ref hmW) (C := RX6) (T := TX6) (N := 16) hx hb hts inX6_isSum_X6 hown hK hP 0 rfl rfl 1 (by decide) (hts _ mX6_isSum_0) (fun _ h9 => h9) rfl dX6_isSum_9 ?_
    refine lv_iload_n hx hb dX6_isSum_12 rfl (lv_at hl 1 rfl) ?_
    obtain ⟨b_4, hf⟩ := ite_n hf
    refine va_iald hx hb hK hP 1 0 rfl rfl b_4 dX6_isSum_13 ?_
    refine lv_lload_n hx hb dX6_isSum_14 rfl (lv_at hl 2 rfl) ?_
    obtain ⟨r_5, h_6, hf⟩ := bind_some hf
    have hP_r_5 : va_P D vwCl [] s.heap := hP.sub [] rfl
    refine cz_i (va_runS (As := [.int (mW x1.toNatClampNeg), .long x2]) (rest := []) ⟨hx, hb, hml, hown, hts⟩ (ctX6_isOf l D cy N   (mW x1.toNatClampNeg) x2 r_5 h_6) (va_cwS 2 hts gX6_isSum_X6_isOf rfl rfl rfl (by decide +kernel) ⟨Nat.le_of_ble_eq_true rfl, Nat.le_of_ble_eq_true rfl⟩) (preS_rd [.int (mW x1.toNatClampNeg), .long x2] hP_r_5 hB) rfl rfl hl.1 rfl (lv_room (Nat.le_of_ble_eq_true rfl)) dX6_isSum_15 ⟨Nat.zero_le _, Nat.zero_le _⟩) ?_
    refine lv_if_eq (tgt := 25) hx hb dX6_isSum_18 (by decide) (fun c_7 => ?_) (fun c_7 => ?_)
    · have hf := ite_t hf c_7
      refine lv_iconst (v := (0 : Int32)) hx hb dX6_isSum_25 (by decide) ?_
      exact W.zret (v := (0 : Int32)) hx hb hr rfl (fun t ht hW => ⟨_, rfl, Option.some.inj hf, ht⟩) (fun _ h => absurd h List.not_mem_nil) dX6_isSum_26
    · have hf := ite_f hf c_7
      refine lv_iconst (v := (1 : Int32)) hx hb dX6_isSum_21 (by decide) ?_
      refine lv_goto (tgt := 26) hx hb dX6_isSum_22 (by decide) ?_
      exact W.zret (v := (1 : Int32)) hx hb hr rfl (fun t ht hW => ⟨_, rfl, Option.some.inj hf, ht⟩) (fun _ h => absurd h List.not_mem_nil) dX6_isSum_26
/-! SumFormsModel.turned(JI)J -/
abbrev rX6_turned : Room := { frames := 0, cells := 0, slots := 0, locals := 0 }
abbrev GX6_turned (p : Program) (l : Launch) (e : Env) (s : State) (m : MethodId) (args : Array Value) (below : List Frame) (meth : Method) (c : Code) (r0 : Int64) (fr : JFrame) : Prop := W p l e (headSpec wsX6_turned rX6_turned).room s m args below meth c s.heap [] 0 0 (MQ below (vp_Sl (fun r => r = r0)) args s 0 0 (fun _ => False)) fr
def fX6_turned_B5 (N : Nat) (x0 : Int64) (x2 : Int32) (self : Int64 → Int32 → Option (Int64)) (k : Int64 → Option (Int64)) (x3 : Int64) (x5 : Int32) : Option (Int64) := (if x2 ≤ x5 then (k x3) else (self (x3 ||| (lShl ((lShr x0 x5) &&& (1 : Int64)) ((x2 - (1 : Int32)) - x5))) (x5 + (1 : Int32))))
def fX6_turned_L5 (N : Nat) (x0 : Int64) (x2 : Int32) (k : Int64 → Option (Int64)) : Nat → Int64 → Int32 → Option (Int64)
  | 0 => fun _ _ => none
  | n + 1 => fun x3 x5 => fX6_turned_B5 N x0 x2 (fX6_turned_L5 N x0 x2 k n) k x3 x5
def fX6_turned (N : Nat)  (x0 : Int64) (x2 : Int32) : Option (Int64) := (fX6_turned_L5 N x0 x2 (fun x3_2 => (some x3_2)) N (0 : Int64) (0 : Int32))
set_option maxHeartbeats 4000000 in
set_option maxRecDepth 100000 in
theorem wX6_turned_B5 {p : Program} {l : Launch} {e : Env} {s : State} {m : MethodId} {args : Array Value} {below : List Frame} {meth : Method} {c : Code} {D : va_G} {cy : Nat → ClassId} {r0 : Int64} (E0 : En p m c cX6_turned 6 s args wsX6_turned RX6 meth (some .long) D cy) (N : Nat) (x0 : Int64) (x2 : Int32) (hP : va_P D vwCl [] s.heap) (self : Int64 → Int32 → Option (Int64)) (hself : ∀ (x3 : Int64) (x5 : Int32) (ls : Array Slot), lv_has ls 6 [(0, .long x0), (2, .int x2), (3, .long x3), (5, .int x5)] → self x3 x5 = some r0 → GX6_turned p l e s m args below meth c r0 (F0 m 5 ls [])) (k : Int64 → Option (Int64)) (hk : ∀ (x3 : Int64) (ls : Array Slot), lv_has ls 6 [(3, .long x3)] → k x3 = some r0 → GX6_turned p l e s m args below meth c r0 (F0 m 33 ls [])) : ∀ (x3 : Int64) (x5 : Int32) (ls : Array Slot), lv_has ls 6 [(0, .long x0), (2, .int x2), (3, .long x3), (5, .int x5)] → fX6_turned_B5 N x0 x2 self k x3 x5 = some r0 → GX6_turned p l e s m args below meth c r0 (F0 m 5 ls []) := by
  obtain ⟨⟨hx, hb, hml, hown, hts⟩, hr, hlocks, hB⟩ := id E0
  have hK := hB.1
  have hN := hB.2
  intro x3 x5 ls hl hf
  unfold fX6_turned_B5 at hf
  refine lv_iload hx hb dX6_turned_5 (lv_at hl 3 rfl) ?_
  refine lv_iload_n hx hb dX6_turned_7 rfl (lv_at hl 1 rfl) ?_
  refine lv_icmp_ge (tgt := 33) hx hb dX6_turned_8 (by decide) (fun c_1 => ?_) (fun c_1 => ?_)
  · have hf := ite_t hf c_1
    exact hk _ _ (lv_sub hl [2] rfl) hf
  · have hf := ite_f hf c_1
    refine lv_lload_n hx hb dX6_turned_11 rfl (lv_at hl 2 rfl) ?_
    refine lv_lload_n hx hb dX6_turned_12 rfl (lv_at hl 0 rfl) ?_
    refine lv_iload hx hb dX6_turned_13 (lv_at hl 3 rfl) ?_
    refine zz_lshr hx hb dX6_turned_15 ?_
    refine lv_lconst (v := (1 : Int64)) hx hb dX6_turned_16 (by decide) ?_
    refine lv_land hx hb dX6_turned_17 ?_
    refine lv_iload_n hx hb dX6_turned_18 rfl (lv_at hl 1 rfl) ?_
    refine lv_iconst (v := (1 : Int32)) hx hb dX6_turned_19 (by decide) ?_
    refine lv_isub hx hb dX6_turned_20 ?_
    refine lv_iload hx hb dX6_turned_21 (lv_at hl 3 rfl) ?_
    refine lv_isub hx hb dX6_turned_23 ?_
    refine zz_lshl hx hb dX6_turned_24 ?_
    refine lv_lor hx hb dX6_turned_25 ?_
    refine lv_lstore_n (lv' := [(3, .long (x3 ||| (lShl ((lShr x0 x5) &&& (1 : Int64)) ((x2 - (1 : Int32)) - x5)))), (0, .long x0), (2, .int x2), (5, .int x5)]) hx hb dX6_turned_26 rfl hl (by decide) rfl (fun ls hl => ?_)
    refine lv_iinc (v := (x5 + (1 : Int32))) (lv' := [(5, .int (x5 + (1 : Int32))), (3, .long (x3 ||| (lShl ((lShr x0 x5) &&& (1 : Int64)) ((x2 - (1 : Int32)) - x5)))), (0, .long x0), (2, .int x2)]) hx hb dX6_turned_27 hl (k := 3) rfl rfl (by decide) rfl (fun ls hl => ?_)
    refine lv_goto (tgt := 5) hx hb dX6_turned_30 (by decide) ?_
    exact hself _ _ _ (lv_sub hl [2, 3, 1, 0] rfl) hf
theorem wX6_turned_L5 {p : Program} {l : Launch} {e : Env} {s : State} {m : MethodId} {args : Array Value} {below : List Frame} {meth : Method} {c : Code} {D : va_G} {cy : Nat → ClassId} {r0 : Int64} (E0 : En p m c cX6_turned 6 s args wsX6_turned RX6 meth (some .long) D cy) (N : Nat) (x0 : Int64) (x2 : Int32) (hP : va_P D vwCl [] s.heap) (k : Int64 → Option (Int64)) (hk : ∀ (x3 : Int64) (ls : Array Slot), lv_has ls 6 [(3, .long x3)] → k x3 = some r0 → GX6_turned p l e s m args below meth c r0 (F0 m 33 ls [])) : ∀ (n : Nat), ∀ (x3 : Int64) (x5 : Int32) (ls : Array Slot), lv_has ls 6 [(0, .long x0), (2, .int x2), (3, .long x3), (5, .int x5)] → fX6_turned_L5 N x0 x2 k n x3 x5 = some r0 → GX6_turned p l e s m args below meth c r0 (F0 m 5 ls []) := by
  intro n
  induction n with
  | zero => intro x3 x5 ls hl hf; cases hf
  | succ n ih => exact wX6_turned_B5 E0 N x0 x2 hP _ ih k hk
set_option maxHeartbeats 4000000 in
set_option maxRecDepth 100000 in
theorem ctX6_turned (l : Launch) (D : va_G) (cy : Nat → ClassId) (N : Nat)  (x0 : Int64) (x2 : Int32) (r0 : Int64) (hf : fX6_turned N x0 x2 = some r0) : Met l yX6_turned wsX6_turned rX6_turned (va_Pc [.long x0, .int x2] (Rd D cy [])) (vp_Sl (fun r => r = r0)) 0 0 (fun _ => False) := by
  refine Met.ofW (cc := cX6_turned) (maxL := 6) (ret := (some .long)) (by decide) rfl ?_
  intro p e s m args below meth c s₁ B hml hv
  obtain ⟨rfl, hP, hB⟩ := hv
  have hx := B.exec
  have hb := B.bytes
  have hr := B.returns
  have hts := atoms_spec (ws := wsX6_turned) B.pre
  have hown : s.vm.findClass RX6 = some m.cls := findClass_of_methodNamed B.named
  have hlocks := B.notSynchronized
  have hK := hB.1
  have hN := hB.2
  have hl := lv_entry ([.long x0, .int x2]) (n := 6) (Nat.le_of_ble_eq_true rfl)
  rw [lg_entry_eq]
  generalize (lg_sl ([.long x0, .int x2]) ++ List.replicate (6 - (lg_sl ([.long x0, .int x2])).length) Slot.unset).toArray = ls at hl ⊢
  have hl : lv_has ls 6 [(0, .long x0), (2, .int x2)] := hl
  have E0 : En p m c cX6_turned 6 s ([.long x0, .int x2] : List Value).toArray wsX6_turned RX6 meth (some .long) D cy := ⟨⟨hx, hb, hml, hown, hts⟩, hr, hlocks, hB⟩
  unfold fX6_turned at hf
  refine lv_lconst (v := (0 : Int64)) hx hb dX6_turned_0 (by decide) ?_
  refine lv_lstore_n (lv' := [(3, .long (0 : Int64)), (0, .long x0), (2, .int x2)]) hx hb dX6_turned_1 rfl hl (by decide) rfl (fun ls hl => ?_)
  refine lv_iconst (v := (0 : Int32)) hx hb dX6_turned_2 (by decide) ?_
  refine lv_istore (lv' := [(5, .int (0 : Int32)), (3, .long (0 : Int64)), (0, .long x0), (2, .int x2)]) hx hb dX6_turned_3 hl (by decide) rfl (fun ls hl => ?_)
  refine wX6_turned_L5 E0 N x0 x2 hP _ (fun x3_2 ls hl hf => ?_) N _ _ _ (lv_sub hl [2, 3, 1, 0] rfl) hf
  refine lv_lload_n hx hb dX6_turned_33 rfl (lv_at hl 0 rfl) ?_
  exact W.lret (v := x3_2) hx hb hr (fun t ht hW => ⟨_, rfl, Option.some.inj hf, ht⟩) (fun _ h => absurd h List.not_mem_nil) dX6_turned_34
/-! SumFormsModel.register(IJ)J -/
abbrev rX6_register : Room := { frames := 1, cells := 0, slots := 0, locals := 25 }
theorem mX6_register_0 : Cond.fieldLink RX6 20 "SumFormsModel" "end" "[J" ∈ wsX6_register := by decide +kernel
theorem mX6_register_1 : Cond.fieldLink RX6 27 "SumFormsModel" "turnsOut" "[Z" ∈ wsX6_register := by decide +kernel
theorem mX6_register_2 : Cond.fieldLink RX6 7 "SumFormsModel" "width" "[I" ∈ wsX6_register := by decide +kernel
theorem inX6_register_X6 : ∀ w ∈ u_ws RX6 TX6 16, w ∈ wsX6_register := by decide +kernel
abbrev GX6_register (p : Program) (l : Launch) (e : Env) (s : State) (m : MethodId) (args : Array Value) (below : List Frame) (meth : Method) (c : Code) (r0 : Int64) (fr : JFrame) : Prop := W p l e (headSpec wsX6_register rX6_register).room s m args below meth c s.heap [] 0 0 (MQ below (vp_Sl (fun r => r = r0)) args s 0 0 (fun _ => False)) fr
def fX6_register (N : Nat) (mW : Nat → Int32) (mE : Nat → Int64) (mO : Nat → Int32) (x1 : Int32) (x2 : Int64) : Option (Int64) := (if OOB x1 8 then none else (if OOB x1 8 then none else (if (mO x1.toNatClampNeg) = 0 then (some (x2 ^^^ (mE x1.toNatClampNeg))) else (if OOB x1 8 then none else ((fX6_turned N (x2 ^^^ (mE x1.toNatClampNeg)) (mW x1.toNatClampNeg)).bind (fun r_5 => (some r_5)))))))
set_option maxHeartbeats 4000000 in
set_option maxRecDepth 100000 in
theorem ctX6_register (l : Launch) (D : va_G) (cy : Nat → ClassId) (N : Nat) (hmo hmW hmP hmS hmE hmI hmO hmT hmK hmF hmH hmM hmD hmR hmB : Nat) (mC : Int32) (mN : Int32) (mW : Nat → Int32) (mE : Nat → Int64) (mO : Nat → Int32) (x1 : Int32) (x2 : Int64) (r0 : Int64) (hf : fX6_register N mW mE mO x1 x2 = some r0) : Met l yX6_register wsX6_register rX6_register (va_Pc [.ref hmo, .int x1, .long x2] (Rd D cy [(hmo, .inr (5, [.int mC, .ref hmW, .ref hmP, .ref hmS, .ref hmE, .ref hmI, .ref hmO, .ref hmT, .int mN, .ref hmK, .ref hmF, .ref hmH, .ref hmM, .ref hmD, .ref hmR, .ref hmB])), (hmW, .inl (cy 0, 8, .inl mW)), (hmE, .inl (cy 1, 8, .inr (.inl mE))), (hmO, .inl (cy 2, 8, .inl mO))])) (vp_Sl (fun r => r = r0)) 0 0 (fun _ => False) := by
  refine Met.ofW (cc := cX6_register) (maxL := 6) (ret := (some .long)) (by decide) rfl ?_
  intro p e s m args below meth c s₁ B hml hv
  obtain ⟨rfl, hP, hB⟩ := hv
  have hx := B.exec
  have hb := B.bytes
  have hr := B.returns
  have hts := atoms_spec (ws := wsX6_register) B.pre
  have hown : s.vm.findClass RX6 = some m.cls := findClass_of_methodNamed B.named
  have hlocks := B.notSynchronized
  have hK := hB.1
  have hN := hB.2
  have hl := lv_entry ([.ref hmo, .int x1, .long x2]) (n := 6) (Nat.le_of_ble_eq_true rfl)
  rw [lg_entry_eq]
  generalize (lg_sl ([.ref hmo, .int x1, .long x2]) ++ List.replicate (6 - (lg_sl ([.ref hmo, .int x1, .long x2])).length) Slot.unset).toArray = ls at hl ⊢
  have hl : lv_has ls 6 [(0, .ref hmo), (1, .int x1), (2, .long x2)] := hl
  have E0 : En p m c cX6_register 6 s ([.ref hmo, .int x1, .long x2] : List Value).toArray wsX6_register RX6 meth (some .long) D cy := ⟨⟨hx, hb, hml, hown, hts⟩, hr, hlocks, hB⟩
  unfold fX6_register at hf
  refine lv_lload_n hx hb dX6_register_0 rfl (lv_at hl 2 rfl) ?_
  refine lv_aload_n hx hb dX6_register_1 rfl (lv_at hl 0 rfl) ?_
  refine va_get (D := D) (ci := 5) (v := .ref hmE) (C := RX6) (T := TX6) (N := 16) hx hb hts inX6_register_X6 hown hK hP 0 rfl rfl 4 (by decide) (hts _ mX6_register_0) (fun _ h9 => h9) rfl dX6_register_2 ?_
  refine lv_iload_n hx hb dX6_register_5 rfl (lv_at hl 1 rfl) ?_
  obtain ⟨b_1, hf⟩ := ite_n hf
  refine va_lald hx hb hK hP 2 1 rfl rfl b_1 dX6_register_6 ?_
  refine lv_lxor hx hb dX6_register_7 ?_
  refine lv_lstore (lv' := [(4, .long (x2 ^^^ (mE x1.toNatClampNeg))), (0, .ref hmo), (1, .int x1), (2, .long x2)]) hx hb dX6_register_8 hl (by decide) rfl (fun ls hl => ?_)
  refine lv_aload_n hx hb dX6_register_10 rfl (lv_at hl 1 rfl) ?_
  refine va_get (D := D) (ci := 5) (v := .ref hmO) (C := RX6) (T := TX6) (N := 16) hx hb hts inX6_register_X6 hown hK hP 0 rfl rfl 6 (by decide) (hts _ mX6_register_1) (fun _ h9 => h9) rfl dX6_register_11 ?_
  refine lv_iload_n hx hb dX6_register_14 rfl (lv_at hl 2 rfl) ?_
  obtain ⟨b_2, hf⟩ := ite_n hf
  refine va_zald hx hb hK hP 3 2 rfl rfl b_2 dX6_register_15 ?_
  refine lv_if_eq (tgt := 33) hx hb dX6_register_16 (by decide) (fun c_3 => ?_) (fun c_3 => ?_)
  · have hf := ite_t hf c_3
    refine lv_lload hx hb dX6_register_33 (lv_at hl 0 rfl) ?_
    exact W.lret (v := (x2 ^^^ (mE x1.toNatClampNeg))) hx hb hr (fun t ht hW => ⟨_, rfl, Option.some.inj hf, ht⟩) (fun _ h => absurd h List.not_mem_nil) dX6_register_35
  · have hf := ite_f hf c_3
    refine lv_lload hx hb dX6_register_19 (lv_at hl 0 rfl) ?_
    refine lv_aload_n hx hb dX6_register_21 rfl (lv_at hl 1 rfl) ?_
    refine va_get (D := D) (ci := 5) (v := .ref hmW) (C := RX6) (T := TX6) (N := 16) hx hb hts inX6_register_X6 hown hK hP 0 rfl rfl 1 (by decide) (hts _ mX6_register_2) (fun _ h9 => h9) rfl dX6_register_22 ?_
    refine lv_iload_n hx hb dX6_register_25 rfl (lv_at hl 2 rfl) ?_
    obtain ⟨b_4, hf⟩ := ite_n hf
    refine va_iald hx hb hK hP 1 0 rfl rfl b_4 dX6_register_26 ?_
    obtain ⟨r_5, h_6, hf⟩ := bind_some hf
    have hP_r_5 : va_P D vwCl [] s.heap := hP.sub [] rfl
    refine cz_l (va_runS (As := [.long (x2 ^^^ (mE x1.toNatClampNeg)), .int (mW x1.toNatClampNeg)]) (rest := []) ⟨hx, hb, hml, hown, hts⟩ (ctX6_turned l D cy N   (x2 ^^^ (mE x1.toNatClampNeg)) (mW x1.toNatClampNeg) r_5 h_6) (va_cwS 2 hts gX6_register_X6_turned rfl rfl rfl (by decide +kernel) ⟨Nat.le_of_ble_eq_true rfl, Nat.le_of_ble_eq_true rfl⟩) (preS_rd [.long (x2 ^^^ (mE x1.toNatClampNeg)), .int (mW x1.toNatClampNeg)] hP_r_5 hB) rfl rfl hl.1 rfl (lv_room (Nat.le_of_ble_eq_true rfl)) dX6_register_27 ⟨Nat.zero_le _, Nat.zero_le _⟩) ?_
    refine lv_goto (tgt := 35) hx hb dX6_register_30 (by decide) ?_
    exact W.lret (v := r_5) hx hb hr (fun t ht hW => ⟨_, rfl, Option.some.inj hf, ht⟩) (fun _ h => absurd h List.not_mem_nil) dX6_register_35
/-! SumFormsModel.up(IJ)J -/
abbrev rX6_up : Room := { frames := 0, cells := 0, slots := 0, locals := 0 }
theorem mX6_up_0 : Cond.fieldLink RX6 7 "SumFormsModel" "width" "[I" ∈ wsX6_up := by decide +kernel
theorem mX6_up_1 : Cond.fieldLink RX6 13 "SumFormsModel" "poly" "[J" ∈ wsX6_up := by decide +kernel
theorem inX6_up_X6 : ∀ w ∈ u_ws RX6 TX6 16, w ∈ wsX6_up := by decide +kernel
abbrev GX6_up (p : Program) (l : Launch) (e : Env) (s : State) (m : MethodId) (args : Array Value) (below : List Frame) (meth : Method) (c : Code) (r0 : Int64) (fr : JFrame) : Prop := W p l e (headSpec wsX6_up rX6_up).room s m args below meth c s.heap [] 0 0 (MQ below (vp_Sl (fun r => r = r0)) args s 0 0 (fun _ => False)) fr
def fX6_up (N : Nat) (mW : Nat → Int32) (mP : Nat → Int64) (x1 : Int32) (x2 : Int64) : Option (Int64) := (if OOB x1 8 then none else (if OOB x1 8 then none else (if ((lShr x2 ((mW x1.toNatClampNeg) - (1 : Int32))) &&& (1 : Int64)) = (1 : Int64) then (if OOB x1 8 then none else (some (((lShl x2 (1 : Int32)) &&& ((lShl (1 : Int64) (mW x1.toNatClampNeg)) - (1 : Int64))) ^^^ (mP x1.toNatClampNeg)))) else (some ((lShl x2 (1 : Int32)) &&& ((lShl (1 : Int64) (mW x1.toNatClampNeg)) - (1 : Int64)))))))
set_option maxHeartbeats 4000000 in
set_option maxRecDepth 100000 in
theorem ctX6_up (l : Launch) (D : va_G) (cy : Nat → ClassId) (N : Nat) (hmo hmW hmP hmS hmE hmI hmO hmT hmK hmF hmH hmM hmD hmR hmB : Nat) (mC : Int32) (mN : Int32) (mW : Nat → Int32) (mP : Nat → Int64) (x1 : Int32) (x2 : Int64) (r0 : Int64) (hf : fX6_up N mW mP x1 x2 = some r0) : Met l yX6_up wsX6_up rX6_up (va_Pc [.ref hmo, .int x1, .long x2] (Rd D cy [(hmo, .inr (5, [.int mC, .ref hmW, .ref hmP, .ref hmS, .ref hmE, .ref hmI, .ref hmO, .ref hmT, .int mN, .ref hmK, .ref hmF, .ref hmH, .ref hmM, .ref hmD, .ref hmR, .ref hmB])), (hmW, .inl (cy 0, 8, .inl mW)), (hmP, .inl (cy 1, 8, .inr (.inl mP)))])) (vp_Sl (fun r => r = r0)) 0 0 (fun _ => False) := by
  refine Met.ofW (cc := cX6_up) (maxL := 8) (ret := (some .long)) (by decide) rfl ?_
  intro p e s m args below meth c s₁ B hml hv
  obtain ⟨rfl, hP, hB⟩ := hv
  have hx := B.exec
  have hb := B.bytes
  have hr := B.returns
  have hts := atoms_spec (ws := wsX6_up) B.pre
  have hown : s.vm.findClass RX6 = some m.cls := findClass_of_methodNamed B.named
  have hlocks := B.notSynchronized
  have hK := hB.1
  have hN := hB.2
  have hl := lv_entry ([.ref hmo, .int x1, .long x2]) (n := 8) (Nat.le_of_ble_eq_true rfl)
  rw [lg_entry_eq]
  generalize (lg_sl ([.ref hmo, .int x1, .long x2]) ++ List.replicate (8 - (lg_sl ([.ref hmo, .int x1, .long x2])).length) Slot.unset).toArray = ls at hl ⊢
  have hl : lv_has ls 8 [(0, .ref hmo), (1, .int x1), (2, .long x2)] := hl
  have E0 : En p m c cX6_up 8 s ([.ref hmo, .int x1, .long x2] : List Value).toArray wsX6_up RX6 meth (some .long) D cy := ⟨⟨hx, hb, hml, hown, hts⟩, hr, hlocks, hB⟩
  unfold fX6_up at hf
  refine lv_lload_n hx hb dX6_up_0 rfl (lv_at hl 2 rfl) ?_
  refine lv_aload_n hx hb dX6_up_1 rfl (lv_at hl 0 rfl) ?_
  refine va_get (D := D) (ci := 5) (v := .ref hmW) (C := RX6) (T := TX6) (N := 16) hx hb hts inX6_up_X6 hown hK hP 0 rfl rfl 1 (by decide) (hts _ mX6_up_0) (fun _ h9 => h9) rfl dX6_up_2 ?_
  refine lv_iload_n hx hb dX6_up_5 rfl (lv_at hl 1 rfl) ?_
  obtain ⟨b_1, hf⟩ := ite_n hf
  refine va_iald hx hb hK hP 1 0 rfl rfl b_1 dX6_up_6 ?_
  refine lv_iconst (v := (1 : Int32)) hx hb dX6_up_7 (by decide) ?_
  refine lv_isub hx hb dX6_up_8 ?_
  refine zz_lshr hx hb dX6_up_9 ?_
  refine lv_lconst (v := (1 : Int64)) hx hb dX6_up_10 (by decide) ?_
  refine lv_land hx hb dX6_up_11 ?_
  refine lv_lstore (lv' := [(4, .long ((lShr x2 ((mW x1.toNatClampNeg) - (1 : Int32))) &&& (1 : Int64))), (0, .ref hmo), (1, .int x1), (2, .long x2)]) hx hb dX6_up_12 hl (by decide) rfl (fun ls hl => ?_)
  refine lv_lload_n hx hb dX6_up_14 rfl (lv_at hl 3 rfl) ?_
  refine lv_iconst (v := (1 : Int32)) hx hb dX6_up_15 (by decide) ?_
  refine zz_lshl hx hb dX6_up_16 ?_
  refine lv_lconst (v := (1 : Int64)) hx hb dX6_up_17 (by decide) ?_
  refine lv_aload_n hx hb dX6_up_18 rfl (lv_at hl 1 rfl) ?_
  refine va_get (D := D) (ci := 5) (v := .ref hmW) (C := RX6) (T := TX6) (N := 16) hx hb hts inX6_up_X6 hown hK hP 0 rfl rfl 1 (by decide) (hts _ mX6_up_0) (fun _ h9 => h9) rfl dX6_up_19 ?_
  refine lv_iload_n hx hb dX6_up_22 rfl (lv_at hl 2 rfl) ?_
  obtain ⟨b_2, hf⟩ := ite_n hf
  refine va_iald hx hb hK hP 1 0 rfl rfl b_2 dX6_up_23 ?_
  refine zz_lshl hx hb dX6_up_24 ?_
  refine lv_lconst (v := (1 : Int64)) hx hb dX6_up_25 (by decide) ?_
  refine lv_lsub hx hb dX6_up_26 ?_
  refine lv_land hx hb dX6_up_27 ?_
  refine lv_lstore (lv' := [(6, .long ((lShl x2 (1 : Int32)) &&& ((lShl (1 : Int64) (mW x1.toNatClampNeg)) - (1 : Int64)))), (4, .long ((lShr x2 ((mW x1.toNatClampNeg) - (1 : Int32))) &&& (1 : Int64))), (0, .ref hmo), (1, .int x1), (2, .long x2)]) hx hb dX6_up_28 hl (by decide) rfl (fun ls hl => ?_)
  refine lv_lload hx hb dX6_up_30 (lv_at hl 1 rfl) ?_
  refine lv_lconst (v := (1 : Int64)) hx hb dX6_up_32 (by decide) ?_
  refine zz_lc_ne (tgt := 49) hx hb dX6_up_33 dX6_up_34 (by decide) (fun c_3 => ?_) (fun c_3 => ?_)
  · have hf := ite_f hf c_3
    refine lv_lload hx hb dX6_up_49 (lv_at hl 0 rfl) ?_
    exact W.lret (v := ((lShl x2 (1 : Int32)) &&& ((lShl (1 : Int64) (mW x1.toNatClampNeg)) - (1 : Int64)))) hx hb hr (fun t ht hW => ⟨_, rfl, Option.some.inj hf, ht⟩) (fun _ h => absurd h List.not_mem_nil) dX6_up_51
  · have hf := ite_t hf c_3
    refine lv_lload hx hb dX6_up_37 (lv_at hl 0 rfl) ?_
    refine lv_aload_n hx hb dX6_up_39 rfl (lv_at hl 2 rfl) ?_
    refine va_get (D := D) (ci := 5) (v := .ref hmP) (C := RX6) (T := TX6) (N := 16) hx hb hts inX6_up_X6 hown hK hP 0 rfl rfl 2 (by decide) (hts _ mX6_up_1) (fun _ h9 => h9) rfl dX6_up_40 ?_
    refine lv_iload_n hx hb dX6_up_43 rfl (lv_at hl 3 rfl) ?_
    obtain ⟨b_4, hf⟩ := ite_n hf
    refine va_lald hx hb hK hP 2 1 rfl rfl b_4 dX6_up_44 ?_
    refine lv_lxor hx hb dX6_up_45 ?_
    refine lv_goto (tgt := 51) hx hb dX6_up_46 (by decide) ?_
    exact W.lret (v := (((lShl x2 (1 : Int32)) &&& ((lShl (1 : Int64) (mW x1.toNatClampNeg)) - (1 : Int64))) ^^^ (mP x1.toNatClampNeg))) hx hb hr (fun t ht hW => ⟨_, rfl, Option.some.inj hf, ht⟩) (fun _ h => absurd h List.not_mem_nil) dX6_up_51
/-! SumFormsModel.taken(IJI)J -/
abbrev rX6_taken : Room := { frames := 1, cells := 0, slots := 0, locals := 27 }
theorem mX6_taken_0 : Cond.fieldLink RX6 23 "SumFormsModel" "turnsIn" "[Z" ∈ wsX6_taken := by decide +kernel
theorem mX6_taken_1 : Cond.fieldLink RX6 7 "SumFormsModel" "width" "[I" ∈ wsX6_taken := by decide +kernel
theorem inX6_taken_X6 : ∀ w ∈ u_ws RX6 TX6 16, w ∈ wsX6_taken := by decide +kernel
abbrev GX6_taken (p : Program) (l : Launch) (e : Env) (s : State) (m : MethodId) (args : Array Value) (below : List Frame) (meth : Method) (c : Code) (r0 : Int64) (fr : JFrame) : Prop := W p l e (headSpec wsX6_taken rX6_taken).room s m args below meth c s.heap [] 0 0 (MQ below (vp_Sl (fun r => r = r0)) args s 0 0 (fun _ => False)) fr
def fX6_taken_B6 (N : Nat) (mW : Nat → Int32) (mP : Nat → Int64) (mI : Nat → Int32) (x1 : Int32) (x4 : Int32) (self : Int64 → Int32 → Option (Int64)) (k : Int64 → Option (Int64)) (x5 : Int64) (x7 : Int32) : Option (Int64) := (if (8 : Int32) ≤ x7 then (k x5) else (if OOB x1 8 then none else (if (mI x1.toNatClampNeg) = 0 then (if ((iShr x4 ((7 : Int32) - x7)) &&& (1 : Int32)) = (1 : Int32) then (if OOB x1 8 then none else ((fX6_up N mW mP x1 (x5 ^^^ (lShl (1 : Int64) ((mW x1.toNatClampNeg) - (1 : Int32))))).bind (fun r_8 => (self r_8 (x7 + (1 : Int32)))))) else ((fX6_up N mW mP x1 x5).bind (fun r_5 => (self r_5 (x7 + (1 : Int32)))))) else (if ((iShr x4 x7) &&& (1 : Int32)) = (1 : Int32) then (if OOB x1 8 then none else ((fX6_up N mW mP x1 (x5 ^^^ (lShl (1 : Int64) ((mW x1.toNatClampNeg) - (1 : Int32))))).bind (fun r_14 => (self r_14 (x7 + (1 : Int32)))))) else ((fX6_up N mW mP x1 x5).bind (fun r_11 => (self r_11 (x7 + (1 : Int32)))))))))
def fX6_taken_L6 (N : Nat) (mW : Nat → Int32) (mP : Nat → Int64) (mI : Nat → Int32) (x1 : Int32) (x4 : Int32) (k : Int64 → Option (Int64)) : Nat → Int64 → Int32 → Option (Int64)
  | 0 => fun _ _ => none
  | n + 1 => fun x5 x7 => fX6_taken_B6 N mW mP mI x1 x4 (fX6_taken_L6 N mW mP mI x1 x4 k n) k x5 x7
def fX6_taken (N : Nat) (mW : Nat → Int32) (mP : Nat → Int64) (mI : Nat → Int32) (x1 : Int32) (x2 : Int64) (x4 : Int32) : Option (Int64) := (fX6_taken_L6 N mW mP mI x1 x4 (fun x5_16 => (some x5_16)) N x2 (0 : Int32))
set_option maxHeartbeats 4000000 in
set_option maxRecDepth 100000 in
theorem wX6_taken_B6 {p : Program} {l : Launch} {e : Env} {s : State} {m : MethodId} {args : Array Value} {below : List Frame} {meth : Method} {c : Code} {D : va_G} {cy : Nat → ClassId} {hmo hmW hmP hmS hmE hmI hmO hmT hmK hmF hmH hmM hmD hmR hmB : Nat} {mC : Int32} {mN : Int32} {r0 : Int64} (E0 : En p m c cX6_taken 9 s args wsX6_taken RX6 meth (some .long) D cy) (N : Nat) (mW : Nat → Int32) (mP : Nat → Int64) (mI : Nat → Int32) (x1 : Int32) (x4 : Int32) (hP : va_P D vwCl [(hmo, .inr (5, [.int mC, .ref hmW, .ref hmP, .ref hmS, .ref hmE, .ref hmI, .ref hmO, .ref hmT, .int mN, .ref hmK, .ref hmF, .ref hmH, .ref hmM, .ref hmD, .ref hmR, .ref hmB])), (hmW, .inl (cy 0, 8, .inl mW)), (hmP, .inl (cy 1, 8, .inr (.inl mP))), (hmI, .inl (cy 2, 8, .inl mI))] s.heap) (self : Int64 → Int32 → Option (Int64)) (hself : ∀ (x5 : Int64) (x7 : Int32) (ls : Array Slot), lv_has ls 9 [(0, .ref hmo), (1, .int x1), (4, .int x4), (5, .long x5), (7, .int x7)] → self x5 x7 = some r0 → GX6_taken p l e s m args below meth c r0 (F0 m 6 ls [])) (k : Int64 → Option (Int64)) (hk : ∀ (x5 : Int64) (ls : Array Slot), lv_has ls 9 [(5, .long x5)] → k x5 = some r0 → GX6_taken p l e s m args below meth c r0 (F0 m 81 ls [])) : ∀ (x5 : Int64) (x7 : Int32) (ls : Array Slot), lv_has ls 9 [(0, .ref hmo), (1, .int x1), (4, .int x4), (5, .long x5), (7, .int x7)] → fX6_taken_B6 N mW mP mI x1 x4 self k x5 x7 = some r0 → GX6_taken p l e s m args below meth c r0 (F0 m 6 ls []) := by
  obtain ⟨⟨hx, hb, hml, hown, hts⟩, hr, hlocks, hB⟩ := id E0
  have hK := hB.1
  have hN := hB.2
  intro x5 x7 ls hl hf
  unfold fX6_taken_B6 at hf
  refine lv_iload hx hb dX6_taken_6 (lv_at hl 4 rfl) ?_
  refine lv_bipush (v := (8 : Int32)) hx hb dX6_taken_8 (by decide) ?_
  refine lv_icmp_ge (tgt := 81) hx hb dX6_taken_10 (by decide) (fun c_1 => ?_) (fun c_1 => ?_)
  · have hf := ite_t hf c_1
    exact hk _ _ (lv_sub hl [3] rfl) hf
  · have hf := ite_f hf c_1
    refine lv_aload_n hx hb dX6_taken_13 rfl (lv_at hl 0 rfl) ?_
    refine va_get (D := D) (ci := 5) (v := .ref hmI) (C := RX6) (T := TX6) (N := 16) hx hb hts inX6_taken_X6 hown hK hP 0 rfl rfl 5 (by decide) (hts _ mX6_taken_0) (fun _ h9 => h9) rfl dX6_taken_14 ?_
    refine lv_iload_n hx hb dX6_taken_17 rfl (lv_at hl 1 rfl) ?_
    obtain ⟨b_2, hf⟩ := ite_n hf
    refine va_zald hx hb hK hP 3 2 rfl rfl b_2 dX6_taken_18 ?_
    refine lv_if_eq (tgt := 32) hx hb dX6_taken_19 (by decide) (fun c_3 => ?_) (fun c_3 => ?_)
    · have hf := ite_t hf c_3
      refine lv_iload hx hb dX6_taken_32 (lv_at hl 2 rfl) ?_
      refine lv_bipush (v := (7 : Int32)) hx hb dX6_taken_34 (by decide) ?_
      refine lv_iload hx hb dX6_taken_36 (lv_at hl 4 rfl) ?_
      refine lv_isub hx hb dX6_taken_38 ?_
      refine zz_ishr hx hb dX6_taken_39 ?_
      refine lv_iconst (v := (1 : Int32)) hx hb dX6_taken_40 (by decide) ?_
      refine lv_iand hx hb dX6_taken_41 ?_
      refine lv_istore (lv' := [(8, .int ((iShr x4 ((7 : Int32) - x7)) &&& (1 : Int32))), (0, .ref hmo), (1, .int x1), (4, .int x4), (5, .long x5), (7, .int x7)]) hx hb dX6_taken_42 hl (by decide) rfl (fun ls hl => ?_)
      refine lv_aload_n hx hb dX6_taken_44 rfl (lv_at hl 1 rfl) ?_
      refine lv_iload_n hx hb dX6_taken_45 rfl (lv_at hl 2 rfl) ?_
      refine lv_iload hx hb dX6_taken_46 (lv_at hl 0 rfl) ?_
      refine lv_iconst (v := (1 : Int32)) hx hb dX6_taken_48 (by decide) ?_
      refine lv_icmp_ne (tgt := 68) hx hb dX6_taken_49 (by decide) (fun c_4 => ?_) (fun c_4 => ?_)
      · have hf := ite_f hf c_4
        refine lv_lload hx hb dX6_taken_68 (lv_at hl 4 rfl) ?_
        obtain ⟨r_5, h_6, hf⟩ := bind_some hf
        have hP_r_5 : va_P D vwCl [(hmo, .inr (5, [.int mC, .ref hmW, .ref hmP, .ref hmS, .ref hmE, .ref hmI, .ref hmO, .ref hmT, .int mN, .ref hmK, .ref hmF, .ref hmH, .ref hmM, .ref hmD, .ref hmR, .ref hmB])), (hmW, .inl (cy 0, 8, .inl mW)), (hmP, .inl (cy 1, 8, .inr (.inl mP)))] s.heap := hP.sub [0, 1, 2] rfl
        refine cz_l (va_runV (As := [.int x1, .long x5]) (rest := []) ⟨hx, hb, hml, hown, hts⟩ (ctX6_up l D cy N hmo hmW hmP hmS hmE hmI hmO hmT hmK hmF hmH hmM hmD hmR hmB mC mN mW mP x1 x5 r_5 h_6) (cwV 2 hts gX6_taken_X6_up rfl rfl rfl (by decide +kernel) ⟨Nat.le_of_ble_eq_true rfl, Nat.le_of_ble_eq_true rfl⟩) (preV_rd (ci := 5) (q0 := 0) [.int x1, .long x5] hP_r_5 hB rfl rfl) rfl rfl hl.1 rfl (lv_room (Nat.le_of_ble_eq_true rfl)) dX6_taken_70 ⟨Nat.zero_le _, Nat.zero_le _⟩) ?_
        refine lv_lstore (lv' := [(5, .long r_5), (8, .int ((iShr x4 ((7 : Int32) - x7)) &&& (1 : Int32))), (0, .ref hmo), (1, .int x1), (4, .int x4), (7, .int x7)]) hx hb dX6_taken_73 hl (by decide) rfl (fun ls hl => ?_)
        refine lv_iinc (v := (x7 + (1 : Int32))) (lv' := [(7, .int (x7 + (1 : Int32))), (5, .long r_5), (8, .int ((iShr x4 ((7 : Int32) - x7)) &&& (1 : Int32))), (0, .ref hmo), (1, .int x1), (4, .int x4)]) hx hb dX6_taken_75 hl (k := 5) rfl rfl (by decide) rfl (fun ls hl => ?_)
        refine lv_goto (tgt := 6) hx hb dX6_taken_78 (by decide) ?_
        exact hself _ _ _ (lv_sub hl [3, 4, 5, 1, 0] rfl) hf
      · have hf := ite_t hf c_4
        refine lv_lload hx hb dX6_taken_52 (lv_at hl 4 rfl) ?_
        refine lv_lconst (v := (1 : Int64)) hx hb dX6_taken_54 (by decide) ?_
        refine lv_aload_n hx hb dX6_taken_55 rfl (lv_at hl 1 rfl) ?_
        refine va_get (D := D) (ci := 5) (v := .ref hmW) (C := RX6) (T := TX6) (N := 16) hx hb hts inX6_taken_X6 hown hK hP 0 rfl rfl 1 (by decide) (hts _ mX6_taken_1) (fun _ h9 => h9) rfl dX6_taken_56 ?_
        refine lv_iload_n hx hb dX6_taken_59 rfl (lv_at hl 2 rfl) ?_
        obtain ⟨b_7, hf⟩ := ite_n hf
        refine va_iald hx hb hK hP 1 0 rfl rfl b_7 dX6_taken_60 ?_
        refine lv_iconst (v := (1 : Int32)) hx hb dX6_taken_61 (by decide) ?_
        refine lv_isub hx hb dX6_taken_62 ?_
        refine zz_lshl hx hb dX6_taken_63 ?_
        refine lv_lxor hx hb dX6_taken_64 ?_
        refine lv_goto (tgt := 70) hx hb dX6_taken_65 (by decide) ?_
        obtain ⟨r_8, h_9, hf⟩ := bind_some hf
        have hP_r_8 : va_P D vwCl [(hmo, .inr (5, [.int mC, .ref hmW, .ref hmP, .ref hmS, .ref hmE, .ref hmI, .ref hmO, .ref hmT, .int mN, .ref hmK, .ref hmF, .ref hmH, .ref hmM, .ref hmD, .ref hmR, .ref hmB])), (hmW, .inl (cy 0, 8, .inl mW)), (hmP, .inl (cy 1, 8, .inr (.inl mP)))] s.heap := hP.sub [0, 1, 2] rfl
        refine cz_l (va_runV (As := [.int x1, .long (x5 ^^^ (lShl (1 : Int64) ((mW x1.toNatClampNeg) - (1 : Int32))))]) (rest := []) ⟨hx, hb, hml, hown, hts⟩ (ctX6_up l D cy N hmo hmW hmP hmS hmE hmI hmO hmT hmK hmF hmH hmM hmD hmR hmB mC mN mW mP x1 (x5 ^^^ (lShl (1 : Int64) ((mW x1.toNatClampNeg) - (1 : Int32)))) r_8 h_9) (cwV 2 hts gX6_taken_X6_up rfl rfl rfl (by decide +kernel) ⟨Nat.le_of_ble_eq_true rfl, Nat.le_of_ble_eq_true rfl⟩) (preV_rd (ci := 5) (q0 := 0) [.int x1, .long (x5 ^^^ (lShl (1 : Int64) ((mW x1.toNatClampNeg) - (1 : Int32))))] hP_r_8 hB rfl rfl) rfl rfl hl.1 rfl (lv_room (Nat.le_of_ble_eq_true rfl)) dX6_taken_70 ⟨Nat.zero_le _, Nat.zero_le _⟩) ?_
        refine lv_lstore (lv' := [(5, .long r_8), (8, .int ((iShr x4 ((7 : Int32) - x7)) &&& (1 : Int32))), (0, .ref hmo), (1, .int x1), (4, .int x4), (7, .int x7)]) hx hb dX6_taken_73 hl (by decide) rfl (fun ls hl => ?_)
        refine lv_iinc (v := (x7 + (1 : Int32))) (lv' := [(7, .int (x7 + (1 : Int32))), (5, .long r_8), (8, .int ((iShr x4 ((7 : Int32) - x7)) &&& (1 : Int32))), (0, .ref hmo), (1, .int x1), (4, .int x4)]) hx hb dX6_taken_75 hl (k := 5) rfl rfl (by decide) rfl (fun ls hl => ?_)
        refine lv_goto (tgt := 6) hx hb dX6_taken_78 (by decide) ?_
        exact hself _ _ _ (lv_sub hl [3, 4, 5, 1, 0] rfl) hf
    · have hf := ite_f hf c_3
      refine lv_iload hx hb dX6_taken_22 (lv_at hl 2 rfl) ?_
      refine lv_iload hx hb dX6_taken_24 (lv_at hl 4 rfl) ?_
      refine zz_ishr hx hb dX6_taken_26 ?_
      refine lv_iconst (v := (1 : Int32)) hx hb dX6_taken_27 (by decide) ?_
      refine lv_iand hx hb dX6_taken_28 ?_
      refine lv_goto (tgt := 42) hx hb dX6_taken_29 (by decide) ?_
      refine lv_istore (lv' := [(8, .int ((iShr x4 x7) &&& (1 : Int32))), (0, .ref hmo), (1, .int x1), (4, .int x4), (5, .long x5), (7, .int x7)]) hx hb dX6_taken_42 hl (by decide) rfl (fun ls hl => ?_)
      refine lv_aload_n hx hb dX6_taken_44 rfl (lv_at hl 1 rfl) ?_
      refine lv_iload_n hx hb dX6_taken_45 rfl (lv_at hl 2 rfl) ?_
      refine lv_iload hx hb dX6_taken_46 (lv_at hl 0 rfl) ?_
      refine lv_iconst (v := (1 : Int32)) hx hb dX6_taken_48 (by decide) ?_
      refine lv_icmp_ne (tgt := 68) hx hb dX6_taken_49 (by decide) (fun c_10 => ?_) (fun c_10 => ?_)
      · have hf := ite_f hf c_10
        refine lv_lload hx hb dX6_taken_68 (lv_at hl 4 rfl) ?_
        obtain ⟨r_11, h_12, hf⟩ := bind_some hf
        have hP_r_11 : va_P D vwCl [(hmo, .inr (5, [.int mC, .ref hmW, .ref hmP, .ref hmS, .ref hmE, .ref hmI, .ref hmO, .ref hmT, .int mN, .ref hmK, .ref hmF, .ref hmH, .ref hmM, .ref hmD, .ref hmR, .ref hmB])), (hmW, .inl (cy 0, 8, .inl mW)), (hmP, .inl (cy 1, 8, .inr (.inl mP)))] s.heap := hP.sub [0, 1, 2] rfl
        refine cz_l (va_runV (As := [.int x1, .long x5]) (rest := []) ⟨hx, hb, hml, hown, hts⟩ (ctX6_up l D cy N hmo hmW hmP hmS hmE hmI hmO hmT hmK hmF hmH hmM hmD hmR hmB mC mN mW mP x1 x5 r_11 h_12) (cwV 2 hts gX6_taken_X6_up rfl rfl rfl (by decide +kernel) ⟨Nat.le_of_ble_eq_true rfl, Nat.le_of_ble_eq_true rfl⟩) (preV_rd (ci := 5) (q0 := 0) [.int x1, .long x5] hP_r_11 hB rfl rfl) rfl rfl hl.1 rfl (lv_room (Nat.le_of_ble_eq_true rfl)) dX6_taken_70 ⟨Nat.zero_le _, Nat.zero_le _⟩) ?_
        refine lv_lstore (lv' := [(5, .long r_11), (8, .int ((iShr x4 x7) &&& (1 : Int32))), (0, .ref hmo), (1, .int x1), (4, .int x4), (7, .int x7)]) hx hb dX6_taken_73 hl (by decide) rfl (fun ls hl => ?_)
        refine lv_iinc (v := (x7 + (1 : Int32))) (lv' := [(7, .int (x7 + (1 : Int32))), (5, .long r_11), (8, .int ((iShr x4 x7) &&& (1 : Int32))), (0, .ref hmo), (1, .int x1), (4, .int x4)]) hx hb dX6_taken_75 hl (k := 5) rfl rfl (by decide) rfl (fun ls hl => ?_)
        refine lv_goto (tgt := 6) hx hb dX6_taken_78 (by decide) ?_
        exact hself _ _ _ (lv_sub hl [3, 4, 5, 1, 0] rfl) hf
      · have hf := ite_t hf c_10
        refine lv_lload hx hb dX6_taken_52 (lv_at hl 4 rfl) ?_
        refine lv_lconst (v := (1 : Int64)) hx hb dX6_taken_54 (by decide) ?_
        refine lv_aload_n hx hb dX6_taken_55 rfl (lv_at hl 1 rfl) ?_
        refine va_get (D := D) (ci := 5) (v := .ref hmW) (C := RX6) (T := TX6) (N := 16) hx hb hts inX6_taken_X6 hown hK hP 0 rfl rfl 1 (by decide) (hts _ mX6_taken_1) (fun _ h9 => h9) rfl dX6_taken_56 ?_
        refine lv_iload_n hx hb dX6_taken_59 rfl (lv_at hl 2 rfl) ?_
        obtain ⟨b_13, hf⟩ := ite_n hf
        refine va_iald hx hb hK hP 1 0 rfl rfl b_13 dX6_taken_60 ?_
        refine lv_iconst (v := (1 : Int32)) hx hb dX6_taken_61 (by decide) ?_
        refine lv_isub hx hb dX6_taken_62 ?_
        refine zz_lshl hx hb dX6_taken_63 ?_
        refine lv_lxor hx hb dX6_taken_64 ?_
        refine lv_goto (tgt := 70) hx hb dX6_taken_65 (by decide) ?_
        obtain ⟨r_14, h_15, hf⟩ := bind_some hf
        have hP_r_14 : va_P D vwCl [(hmo, .inr (5, [.int mC, .ref hmW, .ref hmP, .ref hmS, .ref hmE, .ref hmI, .ref hmO, .ref hmT, .int mN, .ref hmK, .ref hmF, .ref hmH, .ref hmM, .ref hmD, .ref hmR, .ref hmB])), (hmW, .inl (cy 0, 8, .inl mW)), (hmP, .inl (cy 1, 8, .inr (.inl mP)))] s.heap := hP.sub [0, 1, 2] rfl
        refine cz_l (va_runV (As := [.int x1, .long (x5 ^^^ (lShl (1 : Int64) ((mW x1.toNatClampNeg) - (1 : Int32))))]) (rest := []) ⟨hx, hb, hml, hown, hts⟩ (ctX6_up l D cy N hmo hmW hmP hmS hmE hmI hmO hmT hmK hmF hmH hmM hmD hmR hmB mC mN mW mP x1 (x5 ^^^ (lShl (1 : Int64) ((mW x1.toNatClampNeg) - (1 : Int32)))) r_14 h_15) (cwV 2 hts gX6_taken_X6_up rfl rfl rfl (by decide +kernel) ⟨Nat.le_of_ble_eq_true rfl, Nat.le_of_ble_eq_true rfl⟩) (preV_rd (ci := 5) (q0 := 0) [.int x1, .long (x5 ^^^ (lShl (1 : Int64) ((mW x1.toNatClampNeg) - (1 : Int32))))] hP_r_14 hB rfl rfl) rfl rfl hl.1 rfl (lv_room (Nat.le_of_ble_eq_true rfl)) dX6_taken_70 ⟨Nat.zero_le _, Nat.zero_le _⟩) ?_
        refine lv_lstore (lv' := [(5, .long r_14), (8, .int ((iShr x4 x7) &&& (1 : Int32))), (0, .ref hmo), (1, .int x1), (4, .int x4), (7, .int x7)]) hx hb dX6_taken_73 hl (by decide) rfl (fun ls hl => ?_)
        refine lv_iinc (v := (x7 + (1 : Int32))) (lv' := [(7, .int (x7 + (1 : Int32))), (5, .long r_14), (8, .int ((iShr x4 x7) &&& (1 : Int32))), (0, .ref hmo), (1, .int x1), (4, .int x4)]) hx hb dX6_taken_75 hl (k := 5) rfl rfl (by decide) rfl (fun ls hl => ?_)
        refine lv_goto (tgt := 6) hx hb dX6_taken_78 (by decide) ?_
        exact hself _ _ _ (lv_sub hl [3, 4, 5, 1, 0] rfl) hf
theorem wX6_taken_L6 {p : Program} {l : Launch} {e : Env} {s : State} {m : MethodId} {args : Array Value} {below : List Frame} {meth : Method} {c : Code} {D : va_G} {cy : Nat → ClassId} {hmo hmW hmP hmS hmE hmI hmO hmT hmK hmF hmH hmM hmD hmR hmB : Nat} {mC : Int32} {mN : Int32} {r0 : Int64} (E0 : En p m c cX6_taken 9 s args wsX6_taken RX6 meth (some .long) D cy) (N : Nat) (mW : Nat → Int32) (mP : Nat → Int64) (mI : Nat → Int32) (x1 : Int32) (x4 : Int32) (hP : va_P D vwCl [(hmo, .inr (5, [.int mC, .ref hmW, .ref hmP, .ref hmS, .ref hmE, .ref hmI, .ref hmO, .ref hmT, .int mN, .ref hmK, .ref hmF, .ref hmH, .ref hmM, .ref hmD, .ref hmR, .ref hmB])), (hmW, .inl (cy 0, 8, .inl mW)), (hmP, .inl (cy 1, 8, .inr (.inl mP))), (hmI, .inl (cy 2, 8, .inl mI))] s.heap) (k : Int64 → Option (Int64)) (hk : ∀ (x5 : Int64) (ls : Array Slot), lv_has ls 9 [(5, .long x5)] → k x5 = some r0 → GX6_taken p l e s m args below meth c r0 (F0 m 81 ls [])) : ∀ (n : Nat), ∀ (x5 : Int64) (x7 : Int32) (ls : Array Slot), lv_has ls 9 [(0, .ref hmo), (1, .int x1), (4, .int x4), (5, .long x5), (7, .int x7)] → fX6_taken_L6 N mW mP mI x1 x4 k n x5 x7 = some r0 → GX6_taken p l e s m args below meth c r0 (F0 m 6 ls []) := by
  intro n
  induction n with
  | zero => intro x5 x7 ls hl hf; cases hf
  | succ n ih => exact wX6_taken_B6 E0 N mW mP mI x1 x4 hP _ ih k hk
set_option maxHeartbeats 4000000 in
set_option maxRecDepth 100000 in
theorem ctX6_taken (l : Launch) (D : va_G) (cy : Nat → ClassId) (N : Nat) (hmo hmW hmP hmS hmE hmI hmO hmT hmK hmF hmH hmM hmD hmR hmB : Nat) (mC : Int32) (mN : Int32) (mW : Nat → Int32) (mP : Nat → Int64) (mI : Nat → Int32) (x1 : Int32) (x2 : Int64) (x4 : Int32) (r0 : Int64) (hf : fX6_taken N mW mP mI x1 x2 x4 = some r0) : Met l yX6_taken wsX6_taken rX6_taken (va_Pc [.ref hmo, .int x1, .long x2, .int x4] (Rd D cy [(hmo, .inr (5, [.int mC, .ref hmW, .ref hmP, .ref hmS, .ref hmE, .ref hmI, .ref hmO, .ref hmT, .int mN, .ref hmK, .ref hmF, .ref hmH, .ref hmM, .ref hmD, .ref hmR, .ref hmB])), (hmW, .inl (cy 0, 8, .inl mW)), (hmP, .inl (cy 1, 8, .inr (.inl mP))), (hmI, .inl (cy 2, 8, .inl mI))])) (vp_Sl (fun r => r = r0)) 0 0 (fun _ => False) := by
  refine Met.ofW (cc := cX6_taken) (maxL := 9) (ret := (some .long)) (by decide) rfl ?_
  intro p e s m args below meth c s₁ B hml hv
  obtain ⟨rfl, hP, hB⟩ := hv
  have hx := B.exec
  have hb := B.bytes
  have hr := B.returns
  have hts := atoms_spec (ws := wsX6_taken) B.pre
  have hown : s.vm.findClass RX6 = some m.cls := findClass_of_methodNamed B.named
  have hlocks := B.notSynchronized
  have hK := hB.1
  have hN := hB.2
  have hl := lv_entry ([.ref hmo, .int x1, .long x2, .int x4]) (n := 9) (Nat.le_of_ble_eq_true rfl)
  rw [lg_entry_eq]
  generalize (lg_sl ([.ref hmo, .int x1, .long x2, .int x4]) ++ List.replicate (9 - (lg_sl ([.ref hmo, .int x1, .long x2, .int x4])).length) Slot.unset).toArray = ls at hl ⊢
  have hl : lv_has ls 9 [(0, .ref hmo), (1, .int x1), (2, .long x2), (4, .int x4)] := hl
  have E0 : En p m c cX6_taken 9 s ([.ref hmo, .int x1, .long x2, .int x4] : List Value).toArray wsX6_taken RX6 meth (some .long) D cy := ⟨⟨hx, hb, hml, hown, hts⟩, hr, hlocks, hB⟩
  unfold fX6_taken at hf
  refine lv_lload_n hx hb dX6_taken_0 rfl (lv_at hl 2 rfl) ?_
  refine lv_lstore (lv' := [(5, .long x2), (0, .ref hmo), (1, .int x1), (2, .long x2), (4, .int x4)]) hx hb dX6_taken_1 hl (by decide) rfl (fun ls hl => ?_)
  refine lv_iconst (v := (0 : Int32)) hx hb dX6_taken_3 (by decide) ?_
  refine lv_istore (lv' := [(7, .int (0 : Int32)), (5, .long x2), (0, .ref hmo), (1, .int x1), (2, .long x2), (4, .int x4)]) hx hb dX6_taken_4 hl (by decide) rfl (fun ls hl => ?_)
  refine wX6_taken_L6 E0 N mW mP mI x1 x4 hP _ (fun x5_16 ls hl hf => ?_) N _ _ _ (lv_sub hl [2, 3, 5, 1, 0] rfl) hf
  refine lv_lload hx hb dX6_taken_81 (lv_at hl 0 rfl) ?_
  exact W.lret (v := x5_16) hx hb hr (fun t ht hW => ⟨_, rfl, Option.some.inj hf, ht⟩) (fun _ h => absurd h List.not_mem_nil) dX6_taken_83

/-! SumForms.isAdding(I)Z -/
abbrev rX5_isAdding : Room := { frames := 0, cells := 0, slots := 0, locals := 0 }
abbrev GX5_isAdding (p : Program) (l : Launch) (e : Env) (s : State) (m : MethodId) (args : Array Value) (below : List Frame) (meth : Method) (c : Code) (r0 : Int32) (fr : JFrame) : Prop := W p l e (headSpec wsX5_isAdding rX5_isAdding).room s m args below meth c s.heap [] 0 0 (MQ below (vp_Si (fun r => r = r0)) args s 0 0 (fun _ => False)) fr
def fX5_isAdding (N : Nat)  (x0 : Int32) : Option (Int32) := (if x0 = 0 then (some (1 : Int32)) else (if x0 = (1 : Int32) then (some (1 : Int32)) else (some (0 : Int32))))
set_option maxHeartbeats 4000000 in
set_option maxRecDepth 100000 in
theorem ctX5_isAdding (l : Launch) (D : va_G) (cy : Nat → ClassId) (N : Nat)  (x0 : Int32) (r0 : Int32) (hf : fX5_isAdding N x0 = some r0) : Met l yX5_isAdding wsX5_isAdding rX5_isAdding (va_Pc [.int x0] (Rd D cy [])) (vp_Si (fun r => r = r0)) 0 0 (fun _ => False) := by
  refine Met.ofW (cc := cX5_isAdding) (maxL := 1) (ret := (some .boolean)) (by decide) rfl ?_
  intro p e s m args below meth c s₁ B hml hv
  obtain ⟨rfl, hP, hB⟩ := hv
  have hx := B.exec
  have hb := B.bytes
  have hr := B.returns
  have hts := atoms_spec (ws := wsX5_isAdding) B.pre
  have hown : s.vm.findClass RX5 = some m.cls := findClass_of_methodNamed B.named
  have hlocks := B.notSynchronized
  have hK := hB.1
  have hN := hB.2
  have hl := lv_entry ([.int x0]) (n := 1) (Nat.le_of_ble_eq_true rfl)
  rw [lg_entry_eq]
  generalize (lg_sl ([.int x0]) ++ List.replicate (1 - (lg_sl ([.int x0])).length) Slot.unset).toArray = ls at hl ⊢
  have hl : lv_has ls 1 [(0, .int x0)] := hl
  have E0 : En p m c cX5_isAdding 1 s ([.int x0] : List Value).toArray wsX5_isAdding RX5 meth (some .boolean) D cy := ⟨⟨hx, hb, hml, hown, hts⟩, hr, hlocks, hB⟩
  unfold fX5_isAdding at hf
  refine lv_iload_n hx hb dX5_isAdding_0 rfl (lv_at hl 0 rfl) ?_
  refine lv_if_eq (tgt := 9) hx hb dX5_isAdding_1 (by decide) (fun c_1 => ?_) (fun c_1 => ?_)
  · have hf := ite_t hf c_1
    refine lv_iconst (v := (1 : Int32)) hx hb dX5_isAdding_9 (by decide) ?_
    refine lv_goto (tgt := 14) hx hb dX5_isAdding_10 (by decide) ?_
    exact W.zret (v := (1 : Int32)) hx hb hr rfl (fun t ht hW => ⟨_, rfl, Option.some.inj hf, ht⟩) (fun _ h => absurd h List.not_mem_nil) dX5_isAdding_14
  · have hf := ite_f hf c_1
    refine lv_iload_n hx hb dX5_isAdding_4 rfl (lv_at hl 0 rfl) ?_
    refine lv_iconst (v := (1 : Int32)) hx hb dX5_isAdding_5 (by decide) ?_
    refine lv_icmp_ne (tgt := 13) hx hb dX5_isAdding_6 (by decide) (fun c_2 => ?_) (fun c_2 => ?_)
    · have hf := ite_f hf c_2
      refine lv_iconst (v := (0 : Int32)) hx hb dX5_isAdding_13 (by decide) ?_
      exact W.zret (v := (0 : Int32)) hx hb hr rfl (fun t ht hW => ⟨_, rfl, Option.some.inj hf, ht⟩) (fun _ h => absurd h List.not_mem_nil) dX5_isAdding_14
    · have hf := ite_t hf c_2
      refine lv_iconst (v := (1 : Int32)) hx hb dX5_isAdding_9 (by decide) ?_
      refine lv_goto (tgt := 14) hx hb dX5_isAdding_10 (by decide) ?_
      exact W.zret (v := (1 : Int32)) hx hb hr rfl (fun t ht hW => ⟨_, rfl, Option.some.inj hf, ht⟩) (fun _ h => absurd h List.not_mem_nil) dX5_isAdding_14
/-! SumForms.isPart(II)Z -/
abbrev rX5_isPart : Room := { frames := 0, cells := 0, slots := 0, locals := 0 }
theorem mX5_isPart_0 : Cond.fieldLink RX5 13 "SumForms" "octets" "I" ∈ wsX5_isPart := by decide +kernel
theorem inX5_isPart_X5 : ∀ w ∈ u_ws RX5 TX5 5, w ∈ wsX5_isPart := by decide +kernel
abbrev GX5_isPart (p : Program) (l : Launch) (e : Env) (s : State) (m : MethodId) (args : Array Value) (below : List Frame) (meth : Method) (c : Code) (r0 : Int32) (fr : JFrame) : Prop := W p l e (headSpec wsX5_isPart rX5_isPart).room s m args below meth c s.heap [] 0 0 (MQ below (vp_Si (fun r => r = r0)) args s 0 0 (fun _ => False)) fr
def fX5_isPart (N : Nat) (sN : Int32) (x1 : Int32) (x2 : Int32) : Option (Int32) := (if x1 < 0 then (some (0 : Int32)) else (if x2 < x1 then (some (0 : Int32)) else (if sN < x2 then (some (0 : Int32)) else (some (1 : Int32)))))
set_option maxHeartbeats 4000000 in
set_option maxRecDepth 100000 in
theorem ctX5_isPart (l : Launch) (D : va_G) (cy : Nat → ClassId) (N : Nat) (hsf hst hsq hre : Nat) (sN : Int32) (sC : Int32) (x1 : Int32) (x2 : Int32) (r0 : Int32) (hf : fX5_isPart N sN x1 x2 = some r0) : Met l yX5_isPart wsX5_isPart rX5_isPart (va_Pc [.ref hsf, .int x1, .int x2] (Rd D cy [(hsf, .inr (4, [.ref hst, .int sN, .ref hsq, .int sC, .ref hre]))])) (vp_Si (fun r => r = r0)) 0 0 (fun _ => False) := by
  refine Met.ofW (cc := cX5_isPart) (maxL := 3) (ret := (some .boolean)) (by decide) rfl ?_
  intro p e s m args below meth c s₁ B hml hv
  obtain ⟨rfl, hP, hB⟩ := hv
  have hx := B.exec
  have hb := B.bytes
  have hr := B.returns
  have hts := atoms_spec (ws := wsX5_isPart) B.pre
  have hown : s.vm.findClass RX5 = some m.cls := findClass_of_methodNamed B.named
  have hlocks := B.notSynchronized
  have hK := hB.1
  have hN := hB.2
  have hl := lv_entry ([.ref hsf, .int x1, .int x2]) (n := 3) (Nat.le_of_ble_eq_true rfl)
  rw [lg_entry_eq]
  generalize (lg_sl ([.ref hsf, .int x1, .int x2]) ++ List.replicate (3 - (lg_sl ([.ref hsf, .int x1, .int x2])).length) Slot.unset).toArray = ls at hl ⊢
  have hl : lv_has ls 3 [(0, .ref hsf), (1, .int x1), (2, .int x2)] := hl
  have E0 : En p m c cX5_isPart 3 s ([.ref hsf, .int x1, .int x2] : List Value).toArray wsX5_isPart RX5 meth (some .boolean) D cy := ⟨⟨hx, hb, hml, hown, hts⟩, hr, hlocks, hB⟩
  unfold fX5_isPart at hf
  refine lv_iload_n hx hb dX5_isPart_0 rfl (lv_at hl 1 rfl) ?_
  refine lv_if_lt (tgt := 21) hx hb dX5_isPart_1 (by decide) (fun c_1 => ?_) (fun c_1 => ?_)
  · have hf := ite_t hf c_1
    refine lv_iconst (v := (0 : Int32)) hx hb dX5_isPart_21 (by decide) ?_
    exact W.zret (v := (0 : Int32)) hx hb hr rfl (fun t ht hW => ⟨_, rfl, Option.some.inj hf, ht⟩) (fun _ h => absurd h List.not_mem_nil) dX5_isPart_22
  · have hf := ite_f hf c_1
    refine lv_iload_n hx hb dX5_isPart_4 rfl (lv_at hl 1 rfl) ?_
    refine lv_iload_n hx hb dX5_isPart_5 rfl (lv_at hl 2 rfl) ?_
    refine lv_icmp_gt (tgt := 21) hx hb dX5_isPart_6 (by decide) (fun c_2 => ?_) (fun c_2 => ?_)
    · have hf := ite_t hf c_2
      refine lv_iconst (v := (0 : Int32)) hx hb dX5_isPart_21 (by decide) ?_
      exact W.zret (v := (0 : Int32)) hx hb hr rfl (fun t ht hW => ⟨_, rfl, Option.some.inj hf, ht⟩) (fun _ h => absurd h List.not_mem_nil) dX5_isPart_22
    · have hf := ite_f hf c_2
      refine lv_iload_n hx hb dX5_isPart_9 rfl (lv_at hl 2 rfl) ?_
      refine lv_aload_n hx hb dX5_isPart_10 rfl (lv_at hl 0 rfl) ?_
      refine va_get (D := D) (ci := 4) (v := .int sN) (C := RX5) (T := TX5) (N := 5) hx hb hts inX5_isPart_X5 hown hK hP 0 rfl rfl 1 (by decide) (hts _ mX5_isPart_0) (fun _ h9 => h9) rfl dX5_isPart_11 ?_
      refine lv_icmp_gt (tgt := 21) hx hb dX5_isPart_14 (by decide) (fun c_3 => ?_) (fun c_3 => ?_)
      · have hf := ite_t hf c_3
        refine lv_iconst (v := (0 : Int32)) hx hb dX5_isPart_21 (by decide) ?_
        exact W.zret (v := (0 : Int32)) hx hb hr rfl (fun t ht hW => ⟨_, rfl, Option.some.inj hf, ht⟩) (fun _ h => absurd h List.not_mem_nil) dX5_isPart_22
      · have hf := ite_f hf c_3
        refine lv_iconst (v := (1 : Int32)) hx hb dX5_isPart_17 (by decide) ?_
        refine lv_goto (tgt := 22) hx hb dX5_isPart_18 (by decide) ?_
        exact W.zret (v := (1 : Int32)) hx hb hr rfl (fun t ht hW => ⟨_, rfl, Option.some.inj hf, ht⟩) (fun _ h => absurd h List.not_mem_nil) dX5_isPart_22
/-! SumForms.halves(IJJ)J -/
abbrev rX5_halves : Room := { frames := 0, cells := 0, slots := 0, locals := 0 }
theorem mX5_halves_0 : Cond.fieldLink RX5 150 "SumForms" "ADDING_HALF_BITS" "[I" ∈ wsX5_halves := by decide +kernel
abbrev GX5_halves (p : Program) (l : Launch) (e : Env) (s : State) (m : MethodId) (args : Array Value) (below : List Frame) (meth : Method) (c : Code) (r0 : Int64) (fr : JFrame) : Prop := W p l e (headSpec wsX5_halves rX5_halves).room s m args below meth c s.heap [] 0 0 (MQ below (vp_Sl (fun r => r = r0)) args s 0 0 (fun _ => False)) fr
def fX5_halves (N : Nat)  (x0 : Int32) (x1 : Int64) (x3 : Int64) : Option (Int64) := (if OOB x0 2 then none else (some ((lShl x3 (kAH x0.toNatClampNeg)) + x1)))
set_option maxHeartbeats 4000000 in
set_option maxRecDepth 100000 in
theorem ctX5_halves (l : Launch) (D : va_G) (cy : Nat → ClassId) (N : Nat) (tAM tAH tAF : Nat)  (x0 : Int32) (x1 : Int64) (x3 : Int64) (r0 : Int64) (hf : fX5_halves N x0 x1 x3 = some r0) : Met l yX5_halves wsX5_halves rX5_halves (va_Pc [.int x0, .long x1, .long x3] (RdT D cy [] (ST5 tAM tAH tAF (fun _ => False)))) (vp_Sl (fun r => r = r0)) 0 0 (fun _ => False) := by
  refine Met.ofW (cc := cX5_halves) (maxL := 5) (ret := (some .long)) (by decide) rfl ?_
  intro p e s m args below meth c s₁ B hml hv
  obtain ⟨rfl, hP, hB, hZ⟩ := hv
  have hx := B.exec
  have hb := B.bytes
  have hr := B.returns
  have hts := atoms_spec (ws := wsX5_halves) B.pre
  have hown : s.vm.findClass RX5 = some m.cls := findClass_of_methodNamed B.named
  have hlocks := B.notSynchronized
  have hK := hB.1
  have hN := hB.2
  have hl := lv_entry ([.int x0, .long x1, .long x3]) (n := 5) (Nat.le_of_ble_eq_true rfl)
  rw [lg_entry_eq]
  generalize (lg_sl ([.int x0, .long x1, .long x3]) ++ List.replicate (5 - (lg_sl ([.int x0, .long x1, .long x3])).length) Slot.unset).toArray = ls at hl ⊢
  have hl : lv_has ls 5 [(0, .int x0), (1, .long x1), (3, .long x3)] := hl
  have E0 : En p m c cX5_halves 5 s ([.int x0, .long x1, .long x3] : List Value).toArray wsX5_halves RX5 meth (some .long) D cy := ⟨⟨hx, hb, hml, hown, hts⟩, hr, hlocks, hB⟩
  unfold fX5_halves at hf
  refine lv_lload_n hx hb dX5_halves_0 rfl (lv_at hl 2 rfl) ?_
  refine va_gets hx hb hZ.2.1.1 va_S.rf hown (hts _ mX5_halves_0) (fun _ h9 => h9) dX5_halves_1 ?_
  refine lv_iload_n hx hb dX5_halves_4 rfl (lv_at hl 0 rfl) ?_
  obtain ⟨b_1, hf⟩ := ite_n hf
  refine va_ti hx hb hZ.2.1.2 va_S.rf b_1 (v := .int (kAH x0.toNatClampNeg)) rfl dX5_halves_5 ?_
  refine zz_lshl hx hb dX5_halves_6 ?_
  refine lv_lload_n hx hb dX5_halves_7 rfl (lv_at hl 1 rfl) ?_
  refine lv_ladd hx hb dX5_halves_8 ?_
  exact W.lret (v := ((lShl x3 (kAH x0.toNatClampNeg)) + x1)) hx hb hr (fun t ht hW => ⟨_, rfl, Option.some.inj hf, ht⟩) (fun _ h => absurd h List.not_mem_nil) dX5_halves_9
/-! SumForms.added(III)J -/
abbrev rX5_added : Room := { frames := 1, cells := 0, slots := 0, locals := 24 }
theorem mX5_added_0 : Cond.constantLong RX5 50 (-1) ∈ wsX5_added := by decide +kernel
theorem mX5_added_1 : Cond.fieldLink RX5 128 "SumForms" "ADDING_MODULUS" "[I" ∈ wsX5_added := by decide +kernel
theorem mX5_added_2 : Cond.fieldLink RX5 131 "SumForms" "ADDING_FIRST" "[I" ∈ wsX5_added := by decide +kernel
theorem mX5_added_3 : Cond.fieldLink RX5 9 "SumForms" "text" "[I" ∈ wsX5_added := by decide +kernel
theorem inX5_added_X5 : ∀ w ∈ u_ws RX5 TX5 5, w ∈ wsX5_added := by decide +kernel
abbrev GX5_added (p : Program) (l : Launch) (e : Env) (s : State) (m : MethodId) (args : Array Value) (below : List Frame) (meth : Method) (c : Code) (r0 : Int64) (fr : JFrame) : Prop := W p l e (headSpec wsX5_added rX5_added).room s m args below meth c s.heap [] 0 0 (MQ below (vp_Sl (fun r => r = r0)) args s 0 0 (fun _ => False)) fr
def fX5_added_B40 (N : Nat) (sN : Int32) (sT : Nat → Int32) (x1 : Int32) (x3 : Int32) (x4 : Int32) (self : Int32 → Int32 → Int32 → Option (Int64)) (k : Int32 → Int32 → Option (Int64)) (x5 : Int32) (x6 : Int32) (x7 : Int32) : Option (Int64) := (if x3 ≤ x7 then (k x5 x6) else (if OOB x7 600 then none else (if x4 = 0 then none else (if x4 = 0 then none else (self (iRem (x5 + (sT x7.toNatClampNeg)) x4) (iRem (x6 + (iRem (x5 + (sT x7.toNatClampNeg)) x4)) x4) (x7 + (1 : Int32)))))))
def fX5_added_L40 (N : Nat) (sN : Int32) (sT : Nat → Int32) (x1 : Int32) (x3 : Int32) (x4 : Int32) (k : Int32 → Int32 → Option (Int64)) : Nat → Int32 → Int32 → Int32 → Option (Int64)
  | 0 => fun _ _ _ => none
  | n + 1 => fun x5 x6 x7 => fX5_added_B40 N sN sT x1 x3 x4 (fX5_added_L40 N sN sT x1 x3 x4 k n) k x5 x6 x7
def fX5_added (N : Nat) (sN : Int32) (sT : Nat → Int32) (x1 : Int32) (x2 : Int32) (x3 : Int32) : Option (Int64) := ((fX5_isAdding N x1).bind (fun r_1 => (if r_1 = 0 then (some (-1 : Int64)) else ((fX5_isPart N sN x2 x3).bind (fun r_4 => (if r_4 = 0 then (some (-1 : Int64)) else (if OOB x1 2 then none else (if OOB x1 2 then none else (fX5_added_L40 N sN sT x1 x3 (kAM x1.toNatClampNeg) (fun x5_13 x6_14 => ((fX5_halves N x1 x5_13.toInt64 x6_14.toInt64).bind (fun r_15 => (some r_15)))) N (kAF x1.toNatClampNeg) (0 : Int32) x2)))))))))
set_option maxHeartbeats 4000000 in
set_option maxRecDepth 100000 in
theorem wX5_added_B40 {p : Program} {l : Launch} {e : Env} {s : State} {m : MethodId} {args : Array Value} {below : List Frame} {meth : Method} {c : Code} {D : va_G} {cy : Nat → ClassId} {hsf hst hsq hre tAM tAH tAF : Nat} {sC : Int32} {r0 : Int64} (E0 : En p m c cX5_added 8 s args wsX5_added RX5 meth (some .long) D cy) (N : Nat) (sN : Int32) (sT : Nat → Int32) (x1 : Int32) (x3 : Int32) (x4 : Int32) (hP : va_P D vwCl [(hsf, .inr (4, [.ref hst, .int sN, .ref hsq, .int sC, .ref hre])), (hst, .inl (cy 0, 600, .inl sT))] s.heap) (hZ : ST5 tAM tAH tAF (fun _ => False) s s.heap) (self : Int32 → Int32 → Int32 → Option (Int64)) (hself : ∀ (x5 : Int32) (x6 : Int32) (x7 : Int32) (ls : Array Slot), lv_has ls 8 [(0, .ref hsf), (1, .int x1), (3, .int x3), (4, .int x4), (5, .int x5), (6, .int x6), (7, .int x7)] → self x5 x6 x7 = some r0 → GX5_added p l e s m args below meth c r0 (F0 m 40 ls [])) (k : Int32 → Int32 → Option (Int64)) (hk : ∀ (x5 : Int32) (x6 : Int32) (ls : Array Slot), lv_has ls 8 [(1, .int x1), (5, .int x5), (6, .int x6)] → k x5 x6 = some r0 → GX5_added p l e s m args below meth c r0 (F0 m 77 ls [])) : ∀ (x5 : Int32) (x6 : Int32) (x7 : Int32) (ls : Array Slot), lv_has ls 8 [(0, .ref hsf), (1, .int x1), (3, .int x3), (4, .int x4), (5, .int x5), (6, .int x6), (7, .int x7)] → fX5_added_B40 N sN sT x1 x3 x4 self k x5 x6 x7 = some r0 → GX5_added p l e s m args below meth c r0 (F0 m 40 ls []) := by
  obtain ⟨⟨hx, hb, hml, hown, hts⟩, hr, hlocks, hB⟩ := id E0
  have hK := hB.1
  have hN := hB.2
  intro x5 x6 x7 ls hl hf
  unfold fX5_added_B40 at hf
  refine lv_iload hx hb dX5_added_40 (lv_at hl 6 rfl) ?_
  refine lv_iload_n hx hb dX5_added_42 rfl (lv_at hl 2 rfl) ?_
  refine lv_icmp_ge (tgt := 77) hx hb dX5_added_43 (by decide) (fun c_9 => ?_) (fun c_9 => ?_)
  · have hf := ite_t hf c_9
    exact hk _ _ _ (lv_sub hl [1, 4, 5] rfl) hf
  · have hf := ite_f hf c_9
    refine lv_iload hx hb dX5_added_46 (lv_at hl 4 rfl) ?_
    refine lv_aload_n hx hb dX5_added_48 rfl (lv_at hl 0 rfl) ?_
    refine va_get (D := D) (ci := 4) (v := .ref hst) (C := RX5) (T := TX5) (N := 5) hx hb hts inX5_added_X5 hown hK hP 0 rfl rfl 0 (by decide) (hts _ mX5_added_3) (fun _ h9 => h9) rfl dX5_added_49 ?_
    refine lv_iload hx hb dX5_added_52 (lv_at hl 6 rfl) ?_
    obtain ⟨b_10, hf⟩ := ite_n hf
    refine va_iald hx hb hK hP 1 0 rfl rfl b_10 dX5_added_54 ?_
    refine lv_iadd hx hb dX5_added_55 ?_
    refine lv_iload hx hb dX5_added_56 (lv_at hl 3 rfl) ?_
    obtain ⟨z_11, hf⟩ := ite_n hf
    refine zz_irem hx hb dX5_added_58 z_11 ?_
    refine lv_istore (lv' := [(5, .int (iRem (x5 + (sT x7.toNatClampNeg)) x4)), (0, .ref hsf), (1, .int x1), (3, .int x3), (4, .int x4), (6, .int x6), (7, .int x7)]) hx hb dX5_added_59 hl (by decide) rfl (fun ls hl => ?_)
    refine lv_iload hx hb dX5_added_61 (lv_at hl 5 rfl) ?_
    refine lv_iload hx hb dX5_added_63 (lv_at hl 0 rfl) ?_
    refine lv_iadd hx hb dX5_added_65 ?_
    refine lv_iload hx hb dX5_added_66 (lv_at hl 4 rfl) ?_
    obtain ⟨z_12, hf⟩ := ite_n hf
    refine zz_irem hx hb dX5_added_68 z_12 ?_
    refine lv_istore (lv' := [(6, .int (iRem (x6 + (iRem (x5 + (sT x7.toNatClampNeg)) x4)) x4)), (5, .int (iRem (x5 + (sT x7.toNatClampNeg)) x4)), (0, .ref hsf), (1, .int x1), (3, .int x3), (4, .int x4), (7, .int x7)]) hx hb dX5_added_69 hl (by decide) rfl (fun ls hl => ?_)
    refine lv_iinc (v := (x7 + (1 : Int32))) (lv' := [(7, .int (x7 + (1 : Int32))), (6, .int (iRem (x6 + (iRem (x5 + (sT x7.toNatClampNeg)) x4)) x4)), (5, .int (iRem (x5 + (sT x7.toNatClampNeg)) x4)), (0, .ref hsf), (1, .int x1), (3, .int x3), (4, .int x4)]) hx hb dX5_added_71 hl (k := 6) rfl rfl (by decide) rfl (fun ls hl => ?_)
    refine lv_goto (tgt := 40) hx hb dX5_added_74 (by decide) ?_
    exact hself _ _ _ _ (lv_sub hl [3, 4, 5, 6, 2, 1, 0] rfl) hf
theorem wX5_added_L40 {p : Program} {l : Launch} {e : Env} {s : State} {m : MethodId} {args : Array Value} {below : List Frame} {meth : Method} {c : Code} {D : va_G} {cy : Nat → ClassId} {hsf hst hsq hre tAM tAH tAF : Nat} {sC : Int32} {r0 : Int64} (E0 : En p m c cX5_added 8 s args wsX5_added RX5 meth (some .long) D cy) (N : Nat) (sN : Int32) (sT : Nat → Int32) (x1 : Int32) (x3 : Int32) (x4 : Int32) (hP : va_P D vwCl [(hsf, .inr (4, [.ref hst, .int sN, .ref hsq, .int sC, .ref hre])), (hst, .inl (cy 0, 600, .inl sT))] s.heap) (hZ : ST5 tAM tAH tAF (fun _ => False) s s.heap) (k : Int32 → Int32 → Option (Int64)) (hk : ∀ (x5 : Int32) (x6 : Int32) (ls : Array Slot), lv_has ls 8 [(1, .int x1), (5, .int x5), (6, .int x6)] → k x5 x6 = some r0 → GX5_added p l e s m args below meth c r0 (F0 m 77 ls [])) : ∀ (n : Nat), ∀ (x5 : Int32) (x6 : Int32) (x7 : Int32) (ls : Array Slot), lv_has ls 8 [(0, .ref hsf), (1, .int x1), (3, .int x3), (4, .int x4), (5, .int x5), (6, .int x6), (7, .int x7)] → fX5_added_L40 N sN sT x1 x3 x4 k n x5 x6 x7 = some r0 → GX5_added p l e s m args below meth c r0 (F0 m 40 ls []) := by
  intro n
  induction n with
  | zero => intro x5 x6 x7 ls hl hf; cases hf
  | succ n ih => exact wX5_added_B40 E0 N sN sT x1 x3 x4 hP hZ _ ih k hk
set_option maxHeartbeats 4000000 in
set_option maxRecDepth 100000 in
theorem ctX5_added (l : Launch) (D : va_G) (cy : Nat → ClassId) (N : Nat) (hsf hst hsq hre tAM tAH tAF : Nat) (sN : Int32) (sC : Int32) (sT : Nat → Int32) (x1 : Int32) (x2 : Int32) (x3 : Int32) (r0 : Int64) (hf : fX5_added N sN sT x1 x2 x3 = some r0) : Met l yX5_added wsX5_added rX5_added (va_Pc [.ref hsf, .int x1, .int x2, .int x3] (RdT D cy [(hsf, .inr (4, [.ref hst, .int sN, .ref hsq, .int sC, .ref hre])), (hst, .inl (cy 0, 600, .inl sT))] (ST5 tAM tAH tAF (fun _ => False)))) (vp_Sl (fun r => r = r0)) 0 0 (fun _ => False) := by
  refine Met.ofW (cc := cX5_added) (maxL := 8) (ret := (some .long)) (by decide) rfl ?_
  intro p e s m args below meth c s₁ B hml hv
  obtain ⟨rfl, hP, hB, hZ⟩ := hv
  have hx := B.exec
  have hb := B.bytes
  have hr := B.returns
  have hts := atoms_spec (ws := wsX5_added) B.pre
  have hown : s.vm.findClass RX5 = some m.cls := findClass_of_methodNamed B.named
  have hlocks := B.notSynchronized
  have hK := hB.1
  have hN := hB.2
  have hl := lv_entry ([.ref hsf, .int x1, .int x2, .int x3]) (n := 8) (Nat.le_of_ble_eq_true rfl)
  rw [lg_entry_eq]
  generalize (lg_sl ([.ref hsf, .int x1, .int x2, .int x3]) ++ List.replicate (8 - (lg_sl ([.ref hsf, .int x1, .int x2, .int x3])).length) Slot.unset).toArray = ls at hl ⊢
  have hl : lv_has ls 8 [(0, .ref hsf), (1, .int x1), (2, .int x2), (3, .int x3)] := hl
  have E0 : En p m c cX5_added 8 s ([.ref hsf, .int x1, .int x2, .int x3] : List Value).toArray wsX5_added RX5 meth (some .long) D cy := ⟨⟨hx, hb, hml, hown, hts⟩, hr, hlocks, hB⟩
  unfold fX5_added at hf
  refine lv_iload_n hx hb dX5_added_0 rfl (lv_at hl 1 rfl) ?_
  obtain ⟨r_1, h_2, hf⟩ := bind_some hf
  have hP_r_1 : va_P D vwCl [] s.heap := hP.sub [] rfl
  refine cz_i (va_runS (As := [.int x1]) (rest := []) ⟨hx, hb, hml, hown, hts⟩ (ctX5_isAdding l D cy N   x1 r_1 h_2) (va_cwS 1 hts gX5_added_X5_isAdding rfl rfl rfl (by decide +kernel) ⟨Nat.le_of_ble_eq_true rfl, Nat.le_of_ble_eq_true rfl⟩) (preS_rd [.int x1] hP_r_1 hB) rfl rfl hl.1 rfl (lv_room (Nat.le_of_ble_eq_true rfl)) dX5_added_1 ⟨Nat.zero_le _, Nat.zero_le _⟩) ?_
  refine lv_if_eq (tgt := 16) hx hb dX5_added_4 (by decide) (fun c_3 => ?_) (fun c_3 => ?_)
  · have hf := ite_t hf c_3
    refine lv_ldc2 (v := (-1 : Int64)) hx hb hown (hts _ mX5_added_0) dX5_added_16 ?_
    exact W.lret (v := (-1 : Int64)) hx hb hr (fun t ht hW => ⟨_, rfl, Option.some.inj hf, ht⟩) (fun _ h => absurd h List.not_mem_nil) dX5_added_19
  · have hf := ite_f hf c_3
    refine lv_aload_n hx hb dX5_added_7 rfl (lv_at hl 0 rfl) ?_
    refine lv_iload_n hx hb dX5_added_8 rfl (lv_at hl 2 rfl) ?_
    refine lv_iload_n hx hb dX5_added_9 rfl (lv_at hl 3 rfl) ?_
    obtain ⟨r_4, h_5, hf⟩ := bind_some hf
    have hP_r_4 : va_P D vwCl [(hsf, .inr (4, [.ref hst, .int sN, .ref hsq, .int sC, .ref hre]))] s.heap := hP.sub [0] rfl
    refine cz_i (va_runV (As := [.int x2, .int x3]) (rest := []) ⟨hx, hb, hml, hown, hts⟩ (ctX5_isPart l D cy N hsf hst hsq hre sN sC x2 x3 r_4 h_5) (cwV 2 hts gX5_added_X5_isPart rfl rfl rfl (by decide +kernel) ⟨Nat.le_of_ble_eq_true rfl, Nat.le_of_ble_eq_true rfl⟩) (preV_rd (ci := 4) (q0 := 0) [.int x2, .int x3] hP_r_4 hB rfl rfl) rfl rfl hl.1 rfl (lv_room (Nat.le_of_ble_eq_true rfl)) dX5_added_10 ⟨Nat.zero_le _, Nat.zero_le _⟩) ?_
    refine lv_if_ne (tgt := 20) hx hb dX5_added_13 (by decide) (fun c_6 => ?_) (fun c_6 => ?_)
    · have hf := ite_f hf c_6
      refine va_gets hx hb hZ.1.1 va_S.rf hown (hts _ mX5_added_1) (fun _ h9 => h9) dX5_added_20 ?_
      refine lv_iload_n hx hb dX5_added_23 rfl (lv_at hl 1 rfl) ?_
      obtain ⟨b_7, hf⟩ := ite_n hf
      refine va_ti hx hb hZ.1.2 va_S.rf b_7 (v := .int (kAM x1.toNatClampNeg)) rfl dX5_added_24 ?_
      refine lv_istore (lv' := [(4, .int (kAM x1.toNatClampNeg)), (0, .ref hsf), (1, .int x1), (2, .int x2), (3, .int x3)]) hx hb dX5_added_25 hl (by decide) rfl (fun ls hl => ?_)
      refine va_gets hx hb hZ.2.2.1 va_S.rf hown (hts _ mX5_added_2) (fun _ h9 => h9) dX5_added_27 ?_
      refine lv_iload_n hx hb dX5_added_30 rfl (lv_at hl 2 rfl) ?_
      obtain ⟨b_8, hf⟩ := ite_n hf
      refine va_ti hx hb hZ.2.2.2 va_S.rf b_8 (v := .int (kAF x1.toNatClampNeg)) rfl dX5_added_31 ?_
      refine lv_istore (lv' := [(5, .int (kAF x1.toNatClampNeg)), (4, .int (kAM x1.toNatClampNeg)), (0, .ref hsf), (1, .int x1), (2, .int x2), (3, .int x3)]) hx hb dX5_added_32 hl (by decide) rfl (fun ls hl => ?_)
      refine lv_iconst (v := (0 : Int32)) hx hb dX5_added_34 (by decide) ?_
      refine lv_istore (lv' := [(6, .int (0 : Int32)), (5, .int (kAF x1.toNatClampNeg)), (4, .int (kAM x1.toNatClampNeg)), (0, .ref hsf), (1, .int x1), (2, .int x2), (3, .int x3)]) hx hb dX5_added_35 hl (by decide) rfl (fun ls hl => ?_)
      refine lv_iload_n hx hb dX5_added_37 rfl (lv_at hl 5 rfl) ?_
      refine lv_istore (lv' := [(7, .int x2), (6, .int (0 : Int32)), (5, .int (kAF x1.toNatClampNeg)), (4, .int (kAM x1.toNatClampNeg)), (0, .ref hsf), (1, .int x1), (2, .int x2), (3, .int x3)]) hx hb dX5_added_38 hl (by decide) rfl (fun ls hl => ?_)
      refine wX5_added_L40 E0 N sN sT x1 x3 (kAM x1.toNatClampNeg) hP hZ _ (fun x5_13 x6_14 ls hl hf => ?_) N _ _ _ _ (lv_sub hl [4, 5, 7, 3, 2, 1, 0] rfl) hf
      refine lv_iload_n hx hb dX5_added_77 rfl (lv_at hl 0 rfl) ?_
      refine lv_iload hx hb dX5_added_78 (lv_at hl 1 rfl) ?_
      refine lv_i2l (v := x5_13.toInt64) hx hb dX5_added_80 rfl ?_
      refine lv_iload hx hb dX5_added_81 (lv_at hl 2 rfl) ?_
      refine lv_i2l (v := x6_14.toInt64) hx hb dX5_added_83 rfl ?_
      obtain ⟨r_15, h_16, hf⟩ := bind_some hf
      have hP_r_15 : va_P D vwCl [] s.heap := hP.sub [] rfl
      refine cz_l (va_runS (As := [.int x1, .long x5_13.toInt64, .long x6_14.toInt64]) (rest := []) ⟨hx, hb, hml, hown, hts⟩ (ctX5_halves l D cy N tAM tAH tAF  x1 x5_13.toInt64 x6_14.toInt64 r_15 h_16) (va_cwS 3 hts gX5_added_X5_halves rfl rfl rfl (by decide +kernel) ⟨Nat.le_of_ble_eq_true rfl, Nat.le_of_ble_eq_true rfl⟩) (preS_rdT (tab5 tAM tAH tAF _) [.int x1, .long x5_13.toInt64, .long x6_14.toInt64] hP_r_15 hB hZ) rfl rfl hl.1 rfl (lv_room (Nat.le_of_ble_eq_true rfl)) dX5_added_84 ⟨Nat.zero_le _, Nat.zero_le _⟩) ?_
      exact W.lret (v := r_15) hx hb hr (fun t ht hW => ⟨_, rfl, Option.some.inj hf, ht⟩) (fun _ h => absurd h List.not_mem_nil) dX5_added_87
    · have hf := ite_t hf c_6
      refine lv_ldc2 (v := (-1 : Int64)) hx hb hown (hts _ mX5_added_0) dX5_added_16 ?_
      exact W.lret (v := (-1 : Int64)) hx hb hr (fun t ht hW => ⟨_, rfl, Option.some.inj hf, ht⟩) (fun _ h => absurd h List.not_mem_nil) dX5_added_19
/-! SumForms.lowHalf(IJ)J -/
abbrev rX5_lowHalf : Room := { frames := 0, cells := 0, slots := 0, locals := 0 }
theorem mX5_lowHalf_0 : Cond.fieldLink RX5 150 "SumForms" "ADDING_HALF_BITS" "[I" ∈ wsX5_lowHalf := by decide +kernel
abbrev GX5_lowHalf (p : Program) (l : Launch) (e : Env) (s : State) (m : MethodId) (args : Array Value) (below : List Frame) (meth : Method) (c : Code) (r0 : Int64) (fr : JFrame) : Prop := W p l e (headSpec wsX5_lowHalf rX5_lowHalf).room s m args below meth c s.heap [] 0 0 (MQ below (vp_Sl (fun r => r = r0)) args s 0 0 (fun _ => False)) fr
def fX5_lowHalf (N : Nat)  (x0 : Int32) (x1 : Int64) : Option (Int64) := (if OOB x0 2 then none else (some (x1 &&& ((lShl (1 : Int64) (kAH x0.toNatClampNeg)) - (1 : Int64)))))
set_option maxHeartbeats 4000000 in
set_option maxRecDepth 100000 in
theorem ctX5_lowHalf (l : Launch) (D : va_G) (cy : Nat → ClassId) (N : Nat) (tAM tAH tAF : Nat)  (x0 : Int32) (x1 : Int64) (r0 : Int64) (hf : fX5_lowHalf N x0 x1 = some r0) : Met l yX5_lowHalf wsX5_lowHalf rX5_lowHalf (va_Pc [.int x0, .long x1] (RdT D cy [] (ST5 tAM tAH tAF (fun _ => False)))) (vp_Sl (fun r => r = r0)) 0 0 (fun _ => False) := by
  refine Met.ofW (cc := cX5_lowHalf) (maxL := 3) (ret := (some .long)) (by decide) rfl ?_
  intro p e s m args below meth c s₁ B hml hv
  obtain ⟨rfl, hP, hB, hZ⟩ := hv
  have hx := B.exec
  have hb := B.bytes
  have hr := B.returns
  have hts := atoms_spec (ws := wsX5_lowHalf) B.pre
  have hown : s.vm.findClass RX5 = some m.cls := findClass_of_methodNamed B.named
  have hlocks := B.notSynchronized
  have hK := hB.1
  have hN := hB.2
  have hl := lv_entry ([.int x0, .long x1]) (n := 3) (Nat.le_of_ble_eq_true rfl)
  rw [lg_entry_eq]
  generalize (lg_sl ([.int x0, .long x1]) ++ List.replicate (3 - (lg_sl ([.int x0, .long x1])).length) Slot.unset).toArray = ls at hl ⊢
  have hl : lv_has ls 3 [(0, .int x0), (1, .long x1)] := hl
  have E0 : En p m c cX5_lowHalf 3 s ([.int x0, .long x1] : List Value).toArray wsX5_lowHalf RX5 meth (some .long) D cy := ⟨⟨hx, hb, hml, hown, hts⟩, hr, hlocks, hB⟩
  unfold fX5_lowHalf at hf
  refine lv_lload_n hx hb dX5_lowHalf_0 rfl (lv_at hl 1 rfl) ?_
  refine lv_lconst (v := (1 : Int64)) hx hb dX5_lowHalf_1 (by decide) ?_
  refine va_gets hx hb hZ.2.1.1 va_S.rf hown (hts _ mX5_lowHalf_0) (fun _ h9 => h9) dX5_lowHalf_2 ?_
  refine lv_iload_n hx hb dX5_lowHalf_5 rfl (lv_at hl 0 rfl) ?_
  obtain ⟨b_1, hf⟩ := ite_n hf
  refine va_ti hx hb hZ.2.1.2 va_S.rf b_1 (v := .int (kAH x0.toNatClampNeg)) rfl dX5_lowHalf_6 ?_
  refine zz_lshl hx hb dX5_lowHalf_7 ?_
  refine lv_lconst (v := (1 : Int64)) hx hb dX5_lowHalf_8 (by decide) ?_
  refine lv_lsub hx hb dX5_lowHalf_9 ?_
  refine lv_land hx hb dX5_lowHalf_10 ?_
  exact W.lret (v := (x1 &&& ((lShl (1 : Int64) (kAH x0.toNatClampNeg)) - (1 : Int64)))) hx hb hr (fun t ht hW => ⟨_, rfl, Option.some.inj hf, ht⟩) (fun _ h => absurd h List.not_mem_nil) dX5_lowHalf_11
/-! SumForms.highHalf(IJ)J -/
abbrev rX5_highHalf : Room := { frames := 0, cells := 0, slots := 0, locals := 0 }
theorem mX5_highHalf_0 : Cond.fieldLink RX5 150 "SumForms" "ADDING_HALF_BITS" "[I" ∈ wsX5_highHalf := by decide +kernel
abbrev GX5_highHalf (p : Program) (l : Launch) (e : Env) (s : State) (m : MethodId) (args : Array Value) (below : List Frame) (meth : Method) (c : Code) (r0 : Int64) (fr : JFrame) : Prop := W p l e (headSpec wsX5_highHalf rX5_highHalf).room s m args below meth c s.heap [] 0 0 (MQ below (vp_Sl (fun r => r = r0)) args s 0 0 (fun _ => False)) fr
def fX5_highHalf (N : Nat)  (x0 : Int32) (x1 : Int64) : Option (Int64) := (if OOB x0 2 then none else (some (lUsh x1 (kAH x0.toNatClampNeg))))
set_option maxHeartbeats 4000000 in
set_option maxRecDepth 100000 in
theorem ctX5_highHalf (l : Launch) (D : va_G) (cy : Nat → ClassId) (N : Nat) (tAM tAH tAF : Nat)  (x0 : Int32) (x1 : Int64) (r0 : Int64) (hf : fX5_highHalf N x0 x1 = some r0) : Met l yX5_highHalf wsX5_highHalf rX5_highHalf (va_Pc [.int x0, .long x1] (RdT D cy [] (ST5 tAM tAH tAF (fun _ => False)))) (vp_Sl (fun r => r = r0)) 0 0 (fun _ => False) := by
  refine Met.ofW (cc := cX5_highHalf) (maxL := 3) (ret := (some .long)) (by decide) rfl ?_
  intro p e s m args below meth c s₁ B hml hv
  obtain ⟨rfl, hP, hB, hZ⟩ := hv
  have hx := B.exec
  have hb := B.bytes
  have hr := B.returns
  have hts := atoms_spec (ws := wsX5_highHalf) B.pre
  have hown : s.vm.findClass RX5 = some m.cls := findClass_of_methodNamed B.named
  have hlocks := B.notSynchronized
  have hK := hB.1
  have hN := hB.2
  have hl := lv_entry ([.int x0, .long x1]) (n := 3) (Nat.le_of_ble_eq_true rfl)
  rw [lg_entry_eq]
  generalize (lg_sl ([.int x0, .long x1]) ++ List.replicate (3 - (lg_sl ([.int x0, .long x1])).length) Slot.unset).toArray = ls at hl ⊢
  have hl : lv_has ls 3 [(0, .int x0), (1, .long x1)] := hl
  have E0 : En p m c cX5_highHalf 3 s ([.int x0, .long x1] : List Value).toArray wsX5_highHalf RX5 meth (some .long) D cy := ⟨⟨hx, hb, hml, hown, hts⟩, hr, hlocks, hB⟩
  unfold fX5_highHalf at hf
  refine lv_lload_n hx hb dX5_highHalf_0 rfl (lv_at hl 1 rfl) ?_
  refine va_gets hx hb hZ.2.1.1 va_S.rf hown (hts _ mX5_highHalf_0) (fun _ h9 => h9) dX5_highHalf_1 ?_
  refine lv_iload_n hx hb dX5_highHalf_4 rfl (lv_at hl 0 rfl) ?_
  obtain ⟨b_1, hf⟩ := ite_n hf
  refine va_ti hx hb hZ.2.1.2 va_S.rf b_1 (v := .int (kAH x0.toNatClampNeg)) rfl dX5_highHalf_5 ?_
  refine zz_lushr hx hb dX5_highHalf_6 ?_
  exact W.lret (v := (lUsh x1 (kAH x0.toNatClampNeg))) hx hb hr (fun t ht hW => ⟨_, rfl, Option.some.inj hf, ht⟩) (fun _ h => absurd h List.not_mem_nil) dX5_highHalf_7
/-! SumForms.isAddingSum(IJ)Z -/
abbrev rX5_isAddingSum : Room := { frames := 1, cells := 0, slots := 0, locals := 22 }
theorem mX5_isAddingSum_0 : Cond.fieldLink RX5 128 "SumForms" "ADDING_MODULUS" "[I" ∈ wsX5_isAddingSum := by decide +kernel
abbrev GX5_isAddingSum (p : Program) (l : Launch) (e : Env) (s : State) (m : MethodId) (args : Array Value) (below : List Frame) (meth : Method) (c : Code) (r0 : Int32) (fr : JFrame) : Prop := W p l e (headSpec wsX5_isAddingSum rX5_isAddingSum).room s m args below meth c s.heap [] 0 0 (MQ below (vp_Si (fun r => r = r0)) args s 0 0 (fun _ => False)) fr
def fX5_isAddingSum (N : Nat)  (x0 : Int32) (x1 : Int64) : Option (Int32) := (if OOB x0 2 then none else (if x1 < (0 : Int64) then (some (0 : Int32)) else ((fX5_lowHalf N x0 x1).bind (fun r_3 => (if (kAM x0.toNatClampNeg).toInt64 ≤ r_3 then (some (0 : Int32)) else ((fX5_highHalf N x0 x1).bind (fun r_6 => (if (kAM x0.toNatClampNeg).toInt64 ≤ r_6 then (some (0 : Int32)) else (some (1 : Int32))))))))))
set_option maxHeartbeats 4000000 in
set_option maxRecDepth 100000 in
theorem ctX5_isAddingSum (l : Launch) (D : va_G) (cy : Nat → ClassId) (N : Nat) (tAM tAH tAF : Nat)  (x0 : Int32) (x1 : Int64) (r0 : Int32) (hf : fX5_isAddingSum N x0 x1 = some r0) : Met l yX5_isAddingSum wsX5_isAddingSum rX5_isAddingSum (va_Pc [.int x0, .long x1] (RdT D cy [] (ST5 tAM tAH tAF (fun _ => False)))) (vp_Si (fun r => r = r0)) 0 0 (fun _ => False) := by
  refine Met.ofW (cc := cX5_isAddingSum) (maxL := 4) (ret := (some .boolean)) (by decide) rfl ?_
  intro p e s m args below meth c s₁ B hml hv
  obtain ⟨rfl, hP, hB, hZ⟩ := hv
  have hx := B.exec
  have hb := B.bytes
  have hr := B.returns
  have hts := atoms_spec (ws := wsX5_isAddingSum) B.pre
  have hown : s.vm.findClass RX5 = some m.cls := findClass_of_methodNamed B.named
  have hlocks := B.notSynchronized
  have hK := hB.1
  have hN := hB.2
  have hl := lv_entry ([.int x0, .long x1]) (n := 4) (Nat.le_of_ble_eq_true rfl)
  rw [lg_entry_eq]
  generalize (lg_sl ([.int x0, .long x1]) ++ List.replicate (4 - (lg_sl ([.int x0, .long x1])).length) Slot.unset).toArray = ls at hl ⊢
  have hl : lv_has ls 4 [(0, .int x0), (1, .long x1)] := hl
  have E0 : En p m c cX5_isAddingSum 4 s ([.int x0, .long x1] : List Value).toArray wsX5_isAddingSum RX5 meth (some .boolean) D cy := ⟨⟨hx, hb, hml, hown, hts⟩, hr, hlocks, hB⟩
  unfold fX5_isAddingSum at hf
  refine va_gets hx hb hZ.1.1 va_S.rf hown (hts _ mX5_isAddingSum_0) (fun _ h9 => h9) dX5_isAddingSum_0 ?_
  refine lv_iload_n hx hb dX5_isAddingSum_3 rfl (lv_at hl 0 rfl) ?_
  obtain ⟨b_1, hf⟩ := ite_n hf
  refine va_ti hx hb hZ.1.2 va_S.rf b_1 (v := .int (kAM x0.toNatClampNeg)) rfl dX5_isAddingSum_4 ?_
  refine lv_istore_n (lv' := [(3, .int (kAM x0.toNatClampNeg)), (0, .int x0), (1, .long x1)]) hx hb dX5_isAddingSum_5 rfl hl (by decide) rfl (fun ls hl => ?_)
  refine lv_lload_n hx hb dX5_isAddingSum_6 rfl (lv_at hl 2 rfl) ?_
  refine lv_lconst (v := (0 : Int64)) hx hb dX5_isAddingSum_7 (by decide) ?_
  refine zz_lc_lt (tgt := 38) hx hb dX5_isAddingSum_8 dX5_isAddingSum_9 (by decide) (fun c_2 => ?_) (fun c_2 => ?_)
  · have hf := ite_t hf c_2
    refine lv_iconst (v := (0 : Int32)) hx hb dX5_isAddingSum_38 (by decide) ?_
    exact W.zret (v := (0 : Int32)) hx hb hr rfl (fun t ht hW => ⟨_, rfl, Option.some.inj hf, ht⟩) (fun _ h => absurd h List.not_mem_nil) dX5_isAddingSum_39
  · have hf := ite_f hf c_2
    refine lv_iload_n hx hb dX5_isAddingSum_12 rfl (lv_at hl 1 rfl) ?_
    refine lv_lload_n hx hb dX5_isAddingSum_13 rfl (lv_at hl 2 rfl) ?_
    obtain ⟨r_3, h_4, hf⟩ := bind_some hf
    have hP_r_3 : va_P D vwCl [] s.heap := hP.sub [] rfl
    refine cz_l (va_runS (As := [.int x0, .long x1]) (rest := []) ⟨hx, hb, hml, hown, hts⟩ (ctX5_lowHalf l D cy N tAM tAH tAF  x0 x1 r_3 h_4) (va_cwS 2 hts gX5_isAddingSum_X5_lowHalf rfl rfl rfl (by decide +kernel) ⟨Nat.le_of_ble_eq_true rfl, Nat.le_of_ble_eq_true rfl⟩) (preS_rdT (tab5 tAM tAH tAF _) [.int x0, .long x1] hP_r_3 hB hZ) rfl rfl hl.1 rfl (lv_room (Nat.le_of_ble_eq_true rfl)) dX5_isAddingSum_14 ⟨Nat.zero_le _, Nat.zero_le _⟩) ?_
    refine lv_iload_n hx hb dX5_isAddingSum_17 rfl (lv_at hl 0 rfl) ?_
    refine lv_i2l (v := (kAM x0.toNatClampNeg).toInt64) hx hb dX5_isAddingSum_18 rfl ?_
    refine zz_lc_ge (tgt := 38) hx hb dX5_isAddingSum_19 dX5_isAddingSum_20 (by decide) (fun c_5 => ?_) (fun c_5 => ?_)
    · have hf := ite_t hf c_5
      refine lv_iconst (v := (0 : Int32)) hx hb dX5_isAddingSum_38 (by decide) ?_
      exact W.zret (v := (0 : Int32)) hx hb hr rfl (fun t ht hW => ⟨_, rfl, Option.some.inj hf, ht⟩) (fun _ h => absurd h List.not_mem_nil) dX5_isAddingSum_39
    · have hf := ite_f hf c_5
      refine lv_iload_n hx hb dX5_isAddingSum_23 rfl (lv_at hl 1 rfl) ?_
      refine lv_lload_n hx hb dX5_isAddingSum_24 rfl (lv_at hl 2 rfl) ?_
      obtain ⟨r_6, h_7, hf⟩ := bind_some hf
      have hP_r_6 : va_P D vwCl [] s.heap := hP.sub [] rfl
      refine cz_l (va_runS (As := [.int x0, .long x1]) (rest := []) ⟨hx, hb, hml, hown, hts⟩ (ctX5_highHalf l D cy N tAM tAH tAF  x0 x1 r_6 h_7) (va_cwS 2 hts gX5_isAddingSum_X5_highHalf rfl rfl rfl (by decide +kernel) ⟨Nat.le_of_ble_eq_true rfl, Nat.le_of_ble_eq_true rfl⟩) (preS_rdT (tab5 tAM tAH tAF _) [.int x0, .long x1] hP_r_6 hB hZ) rfl rfl hl.1 rfl (lv_room (Nat.le_of_ble_eq_true rfl)) dX5_isAddingSum_25 ⟨Nat.zero_le _, Nat.zero_le _⟩) ?_
      refine lv_iload_n hx hb dX5_isAddingSum_28 rfl (lv_at hl 0 rfl) ?_
      refine lv_i2l (v := (kAM x0.toNatClampNeg).toInt64) hx hb dX5_isAddingSum_29 rfl ?_
      refine zz_lc_ge (tgt := 38) hx hb dX5_isAddingSum_30 dX5_isAddingSum_31 (by decide) (fun c_8 => ?_) (fun c_8 => ?_)
      · have hf := ite_t hf c_8
        refine lv_iconst (v := (0 : Int32)) hx hb dX5_isAddingSum_38 (by decide) ?_
        exact W.zret (v := (0 : Int32)) hx hb hr rfl (fun t ht hW => ⟨_, rfl, Option.some.inj hf, ht⟩) (fun _ h => absurd h List.not_mem_nil) dX5_isAddingSum_39
      · have hf := ite_f hf c_8
        refine lv_iconst (v := (1 : Int32)) hx hb dX5_isAddingSum_34 (by decide) ?_
        refine lv_goto (tgt := 39) hx hb dX5_isAddingSum_35 (by decide) ?_
        exact W.zret (v := (1 : Int32)) hx hb hr rfl (fun t ht hW => ⟨_, rfl, Option.some.inj hf, ht⟩) (fun _ h => absurd h List.not_mem_nil) dX5_isAddingSum_39
/-! SumForms.isLength(J)Z -/
abbrev rX5_isLength : Room := { frames := 0, cells := 0, slots := 0, locals := 0 }
theorem mX5_isLength_0 : Cond.constantLong RX5 148 (1152921504606846976) ∈ wsX5_isLength := by decide +kernel
abbrev GX5_isLength (p : Program) (l : Launch) (e : Env) (s : State) (m : MethodId) (args : Array Value) (below : List Frame) (meth : Method) (c : Code) (r0 : Int32) (fr : JFrame) : Prop := W p l e (headSpec wsX5_isLength rX5_isLength).room s m args below meth c s.heap [] 0 0 (MQ below (vp_Si (fun r => r = r0)) args s 0 0 (fun _ => False)) fr
def fX5_isLength (N : Nat)  (x0 : Int64) : Option (Int32) := (if x0 < (0 : Int64) then (some (0 : Int32)) else (if (1152921504606846976 : Int64) < x0 then (some (0 : Int32)) else (some (1 : Int32))))
set_option maxHeartbeats 4000000 in
set_option maxRecDepth 100000 in
theorem ctX5_isLength (l : Launch) (D : va_G) (cy : Nat → ClassId) (N : Nat)  (x0 : Int64) (r0 : Int32) (hf : fX5_isLength N x0 = some r0) : Met l yX5_isLength wsX5_isLength rX5_isLength (va_Pc [.long x0] (Rd D cy [])) (vp_Si (fun r => r = r0)) 0 0 (fun _ => False) := by
  refine Met.ofW (cc := cX5_isLength) (maxL := 2) (ret := (some .boolean)) (by decide) rfl ?_
  intro p e s m args below meth c s₁ B hml hv
  obtain ⟨rfl, hP, hB⟩ := hv
  have hx := B.exec
  have hb := B.bytes
  have hr := B.returns
  have hts := atoms_spec (ws := wsX5_isLength) B.pre
  have hown : s.vm.findClass RX5 = some m.cls := findClass_of_methodNamed B.named
  have hlocks := B.notSynchronized
  have hK := hB.1
  have hN := hB.2
  have hl := lv_entry ([.long x0]) (n := 2) (Nat.le_of_ble_eq_true rfl)
  rw [lg_entry_eq]
  generalize (lg_sl ([.long x0]) ++ List.replicate (2 - (lg_sl ([.long x0])).length) Slot.unset).toArray = ls at hl ⊢
  have hl : lv_has ls 2 [(0, .long x0)] := hl
  have E0 : En p m c cX5_isLength 2 s ([.long x0] : List Value).toArray wsX5_isLength RX5 meth (some .boolean) D cy := ⟨⟨hx, hb, hml, hown, hts⟩, hr, hlocks, hB⟩
  unfold fX5_isLength at hf
  refine lv_lload_n hx hb dX5_isLength_0 rfl (lv_at hl 0 rfl) ?_
  refine lv_lconst (v := (0 : Int64)) hx hb dX5_isLength_1 (by decide) ?_
  refine zz_lc_lt (tgt := 18) hx hb dX5_isLength_2 dX5_isLength_3 (by decide) (fun c_1 => ?_) (fun c_1 => ?_)
  · have hf := ite_t hf c_1
    refine lv_iconst (v := (0 : Int32)) hx hb dX5_isLength_18 (by decide) ?_
    exact W.zret (v := (0 : Int32)) hx hb hr rfl (fun t ht hW => ⟨_, rfl, Option.some.inj hf, ht⟩) (fun _ h => absurd h List.not_mem_nil) dX5_isLength_19
  · have hf := ite_f hf c_1
    refine lv_lload_n hx hb dX5_isLength_6 rfl (lv_at hl 0 rfl) ?_
    refine lv_ldc2 (v := (1152921504606846976 : Int64)) hx hb hown (hts _ mX5_isLength_0) dX5_isLength_7 ?_
    refine zz_lc_gt (tgt := 18) hx hb dX5_isLength_10 dX5_isLength_11 (by decide) (fun c_2 => ?_) (fun c_2 => ?_)
    · have hf := ite_t hf c_2
      refine lv_iconst (v := (0 : Int32)) hx hb dX5_isLength_18 (by decide) ?_
      exact W.zret (v := (0 : Int32)) hx hb hr rfl (fun t ht hW => ⟨_, rfl, Option.some.inj hf, ht⟩) (fun _ h => absurd h List.not_mem_nil) dX5_isLength_19
    · have hf := ite_f hf c_2
      refine lv_iconst (v := (1 : Int32)) hx hb dX5_isLength_14 (by decide) ?_
      refine lv_goto (tgt := 19) hx hb dX5_isLength_15 (by decide) ?_
      exact W.zret (v := (1 : Int32)) hx hb hr rfl (fun t ht hW => ⟨_, rfl, Option.some.inj hf, ht⟩) (fun _ h => absurd h List.not_mem_nil) dX5_isLength_19
/-! SumForms.addedJoined(IJJJ)J -/
abbrev rX5_addedJoined : Room := { frames := 2, cells := 0, slots := 0, locals := 45 }
theorem mX5_addedJoined_0 : Cond.constantLong RX5 50 (-1) ∈ wsX5_addedJoined := by decide +kernel
theorem mX5_addedJoined_1 : Cond.fieldLink RX5 128 "SumForms" "ADDING_MODULUS" "[I" ∈ wsX5_addedJoined := by decide +kernel
theorem mX5_addedJoined_2 : Cond.fieldLink RX5 131 "SumForms" "ADDING_FIRST" "[I" ∈ wsX5_addedJoined := by decide +kernel
abbrev GX5_addedJoined (p : Program) (l : Launch) (e : Env) (s : State) (m : MethodId) (args : Array Value) (below : List Frame) (meth : Method) (c : Code) (r0 : Int64) (fr : JFrame) : Prop := W p l e (headSpec wsX5_addedJoined rX5_addedJoined).room s m args below meth c s.heap [] 0 0 (MQ below (vp_Sl (fun r => r = r0)) args s 0 0 (fun _ => False)) fr
def fX5_addedJoined (N : Nat)  (x1 : Int32) (x2 : Int64) (x4 : Int64) (x6 : Int64) : Option (Int64) := ((fX5_isAdding N x1).bind (fun r_1 => (if r_1 = 0 then (some (-1 : Int64)) else ((fX5_isAddingSum N x1 x2).bind (fun r_4 => (if r_4 = 0 then (some (-1 : Int64)) else ((fX5_isAddingSum N x1 x4).bind (fun r_7 => (if r_7 = 0 then (some (-1 : Int64)) else ((fX5_isLength N x6).bind (fun r_10 => (if r_10 = 0 then (some (-1 : Int64)) else (if OOB x1 2 then none else ((fX5_lowHalf N x1 x2).bind (fun r_14 => (if OOB x1 2 then none else (if (kAM x1.toNatClampNeg).toInt64 = 0 then none else ((fX5_lowHalf N x1 x4).bind (fun r_18 => (if (kAM x1.toNatClampNeg).toInt64 = 0 then none else ((fX5_highHalf N x1 x2).bind (fun r_21 => ((fX5_highHalf N x1 x4).bind (fun r_23 => (if (kAM x1.toNatClampNeg).toInt64 = 0 then none else (if (kAM x1.toNatClampNeg).toInt64 = 0 then none else ((fX5_halves N x1 (lRem (r_18 + (lRem ((r_14 + (kAM x1.toNatClampNeg).toInt64) - (kAF x1.toNatClampNeg).toInt64) ((kAM x1.toNatClampNeg).toInt64))) ((kAM x1.toNatClampNeg).toInt64)) (lRem ((r_21 + r_23) + ((lRem x6 ((kAM x1.toNatClampNeg).toInt64)) * (lRem ((r_14 + (kAM x1.toNatClampNeg).toInt64) - (kAF x1.toNatClampNeg).toInt64) ((kAM x1.toNatClampNeg).toInt64)))) ((kAM x1.toNatClampNeg).toInt64))).bind (fun r_27 => (some r_27)))))))))))))))))))))))))))))
set_option maxHeartbeats 4000000 in
set_option maxRecDepth 100000 in
theorem ctX5_addedJoined (l : Launch) (D : va_G) (cy : Nat → ClassId) (N : Nat) (hsf hst hsq hre tAM tAH tAF : Nat) (sN : Int32) (sC : Int32) (x1 : Int32) (x2 : Int64) (x4 : Int64) (x6 : Int64) (r0 : Int64) (hf : fX5_addedJoined N x1 x2 x4 x6 = some r0) : Met l yX5_addedJoined wsX5_addedJoined rX5_addedJoined (va_Pc [.ref hsf, .int x1, .long x2, .long x4, .long x6] (RdT D cy [(hsf, .inr (4, [.ref hst, .int sN, .ref hsq, .int sC, .ref hre]))] (ST5 tAM tAH tAF (fun _ => False)))) (vp_Sl (fun r => r = r0)) 0 0 (fun _ => False) := by
  refine Met.ofW (cc := cX5_addedJoined) (maxL := 15) (ret := (some .long)) (by decide) rfl ?_
  intro p e s m args below meth c s₁ B hml hv
  obtain ⟨rfl, hP, hB, hZ⟩ := hv
  have hx := B.exec
  have hb := B.bytes
  have hr := B.returns
  have hts := atoms_spec (ws := wsX5_addedJoined) B.pre
  have hown : s.vm.findClass RX5 = some m.cls := findClass_of_methodNamed B.named
  have hlocks := B.notSynchronized
  have hK := hB.1
  have hN := hB.2
  have hl := lv_entry ([.ref hsf, .int x1, .long x2, .long x4, .long x6]) (n := 15) (Nat.le_of_ble_eq_true rfl)
  rw [lg_entry_eq]
  generalize (lg_sl ([.ref hsf, .int x1, .long x2, .long x4, .long x6]) ++ List.replicate (15 - (lg_sl ([.ref hsf, .int x1, .long x2, .long x4, .long x6])).length) Slot.unset).toArray = ls at hl ⊢
  have hl : lv_has ls 15 [(0, .ref hsf), (1, .int x1), (2, .long x2), (4, .long x4), (6, .long x6)] := hl
  have E0 : En p m c cX5_addedJoined 15 s ([.ref hsf, .int x1, .long x2, .long x4, .long x6] : List Value).toArray wsX5_addedJoined RX5 meth (some .long) D cy := ⟨⟨hx, hb, hml, hown, hts⟩, hr, hlocks, hB⟩
  unfold fX5_addedJoined at hf
  refine lv_iload_n hx hb dX5_addedJoined_0 rfl (lv_at hl 1 rfl) ?_
  obtain ⟨r_1, h_2, hf⟩ := bind_some hf
  have hP_r_1 : va_P D vwCl [] s.heap := hP.sub [] rfl
  refine cz_i (va_runS (As := [.int x1]) (rest := []) ⟨hx, hb, hml, hown, hts⟩ (ctX5_isAdding l D cy N   x1 r_1 h_2) (va_cwS 1 hts gX5_addedJoined_X5_isAdding rfl rfl rfl (by decide +kernel) ⟨Nat.le_of_ble_eq_true rfl, Nat.le_of_ble_eq_true rfl⟩) (preS_rd [.int x1] hP_r_1 hB) rfl rfl hl.1 rfl (lv_room (Nat.le_of_ble_eq_true rfl)) dX5_addedJoined_1 ⟨Nat.zero_le _, Nat.zero_le _⟩) ?_
  refine lv_if_eq (tgt := 32) hx hb dX5_addedJoined_4 (by decide) (fun c_3 => ?_) (fun c_3 => ?_)
  · have hf := ite_t hf c_3
    refine lv_ldc2 (v := (-1 : Int64)) hx hb hown (hts _ mX5_addedJoined_0) dX5_addedJoined_32 ?_
    exact W.lret (v := (-1 : Int64)) hx hb hr (fun t ht hW => ⟨_, rfl, Option.some.inj hf, ht⟩) (fun _ h => absurd h List.not_mem_nil) dX5_addedJoined_35
  · have hf := ite_f hf c_3
    refine lv_iload_n hx hb dX5_addedJoined_7 rfl (lv_at hl 1 rfl) ?_
    refine lv_lload_n hx hb dX5_addedJoined_8 rfl (lv_at hl 2 rfl) ?_
    obtain ⟨r_4, h_5, hf⟩ := bind_some hf
    have hP_r_4 : va_P D vwCl [] s.heap := hP.sub [] rfl
    refine cz_i (va_runS (As := [.int x1, .long x2]) (rest := []) ⟨hx, hb, hml, hown, hts⟩ (ctX5_isAddingSum l D cy N tAM tAH tAF  x1 x2 r_4 h_5) (va_cwS 2 hts gX5_addedJoined_X5_isAddingSum rfl rfl rfl (by decide +kernel) ⟨Nat.le_of_ble_eq_true rfl, Nat.le_of_ble_eq_true rfl⟩) (preS_rdT (tab5 tAM tAH tAF _) [.int x1, .long x2] hP_r_4 hB hZ) rfl rfl hl.1 rfl (lv_room (Nat.le_of_ble_eq_true rfl)) dX5_addedJoined_9 ⟨Nat.zero_le _, Nat.zero_le _⟩) ?_
    refine lv_if_eq (tgt := 32) hx hb dX5_addedJoined_12 (by decide) (fun c_6 => ?_) (fun c_6 => ?_)
    · have hf := ite_t hf c_6
      refine lv_ldc2 (v := (-1 : Int64)) hx hb hown (hts _ mX5_addedJoined_0) dX5_addedJoined_32 ?_
      exact W.lret (v := (-1 : Int64)) hx hb hr (fun t ht hW => ⟨_, rfl, Option.some.inj hf, ht⟩) (fun _ h => absurd h List.not_mem_nil) dX5_addedJoined_35
    · have hf := ite_f hf c_6
      refine lv_iload_n hx hb dX5_addedJoined_15 rfl (lv_at hl 1 rfl) ?_
      refine lv_lload hx hb dX5_addedJoined_16 (lv_at hl 3 rfl) ?_
      obtain ⟨r_7, h_8, hf⟩ := bind_some hf
      have hP_r_7 : va_P D vwCl [] s.heap := hP.sub [] rfl
      refine cz_i (va_runS (As := [.int x1, .long x4]) (rest := []) ⟨hx, hb, hml, hown, hts⟩ (ctX5_isAddingSum l D cy N tAM tAH tAF  x1 x4 r_7 h_8) (va_cwS 2 hts gX5_addedJoined_X5_isAddingSum rfl rfl rfl (by decide +kernel) ⟨Nat.le_of_ble_eq_true rfl, Nat.le_of_ble_eq_true rfl⟩) (preS_rdT (tab5 tAM tAH tAF _) [.int x1, .long x4] hP_r_7 hB hZ) rfl rfl hl.1 rfl (lv_room (Nat.le_of_ble_eq_true rfl)) dX5_addedJoined_18 ⟨Nat.zero_le _, Nat.zero_le _⟩) ?_
      refine lv_if_eq (tgt := 32) hx hb dX5_addedJoined_21 (by decide) (fun c_9 => ?_) (fun c_9 => ?_)
      · have hf := ite_t hf c_9
        refine lv_ldc2 (v := (-1 : Int64)) hx hb hown (hts _ mX5_addedJoined_0) dX5_addedJoined_32 ?_
        exact W.lret (v := (-1 : Int64)) hx hb hr (fun t ht hW => ⟨_, rfl, Option.some.inj hf, ht⟩) (fun _ h => absurd h List.not_mem_nil) dX5_addedJoined_35
      · have hf := ite_f hf c_9
        refine lv_lload hx hb dX5_addedJoined_24 (lv_at hl 4 rfl) ?_
        obtain ⟨r_10, h_11, hf⟩ := bind_some hf
        have hP_r_10 : va_P D vwCl [] s.heap := hP.sub [] rfl
        refine cz_i (va_runS (As := [.long x6]) (rest := []) ⟨hx, hb, hml, hown, hts⟩ (ctX5_isLength l D cy N   x6 r_10 h_11) (va_cwS 1 hts gX5_addedJoined_X5_isLength rfl rfl rfl (by decide +kernel) ⟨Nat.le_of_ble_eq_true rfl, Nat.le_of_ble_eq_true rfl⟩) (preS_rd [.long x6] hP_r_10 hB) rfl rfl hl.1 rfl (lv_room (Nat.le_of_ble_eq_true rfl)) dX5_addedJoined_26 ⟨Nat.zero_le _, Nat.zero_le _⟩) ?_
        refine lv_if_ne (tgt := 36) hx hb dX5_addedJoined_29 (by decide) (fun c_12 => ?_) (fun c_12 => ?_)
        · have hf := ite_f hf c_12
          refine va_gets hx hb hZ.1.1 va_S.rf hown (hts _ mX5_addedJoined_1) (fun _ h9 => h9) dX5_addedJoined_36 ?_
          refine lv_iload_n hx hb dX5_addedJoined_39 rfl (lv_at hl 1 rfl) ?_
          obtain ⟨b_13, hf⟩ := ite_n hf
          refine va_ti hx hb hZ.1.2 va_S.rf b_13 (v := .int (kAM x1.toNatClampNeg)) rfl dX5_addedJoined_40 ?_
          refine lv_istore (lv' := [(8, .int (kAM x1.toNatClampNeg)), (0, .ref hsf), (1, .int x1), (2, .long x2), (4, .long x4), (6, .long x6)]) hx hb dX5_addedJoined_41 hl (by decide) rfl (fun ls hl => ?_)
          refine lv_iload_n hx hb dX5_addedJoined_43 rfl (lv_at hl 2 rfl) ?_
          refine lv_lload_n hx hb dX5_addedJoined_44 rfl (lv_at hl 3 rfl) ?_
          obtain ⟨r_14, h_15, hf⟩ := bind_some hf
          have hP_r_14 : va_P D vwCl [] s.heap := hP.sub [] rfl
          refine cz_l (va_runS (As := [.int x1, .long x2]) (rest := []) ⟨hx, hb, hml, hown, hts⟩ (ctX5_lowHalf l D cy N tAM tAH tAF  x1 x2 r_14 h_15) (va_cwS 2 hts gX5_addedJoined_X5_lowHalf rfl rfl rfl (by decide +kernel) ⟨Nat.le_of_ble_eq_true rfl, Nat.le_of_ble_eq_true rfl⟩) (preS_rdT (tab5 tAM tAH tAF _) [.int x1, .long x2] hP_r_14 hB hZ) rfl rfl hl.1 rfl (lv_room (Nat.le_of_ble_eq_true rfl)) dX5_addedJoined_45 ⟨Nat.zero_le _, Nat.zero_le _⟩) ?_
          refine lv_iload hx hb dX5_addedJoined_48 (lv_at hl 0 rfl) ?_
          refine lv_i2l (v := (kAM x1.toNatClampNeg).toInt64) hx hb dX5_addedJoined_50 rfl ?_
          refine lv_ladd hx hb dX5_addedJoined_51 ?_
          refine va_gets hx hb hZ.2.2.1 va_S.rf hown (hts _ mX5_addedJoined_2) (fun _ h9 => h9) dX5_addedJoined_52 ?_
          refine lv_iload_n hx hb dX5_addedJoined_55 rfl (lv_at hl 2 rfl) ?_
          obtain ⟨b_16, hf⟩ := ite_n hf
          refine va_ti hx hb hZ.2.2.2 va_S.rf b_16 (v := .int (kAF x1.toNatClampNeg)) rfl dX5_addedJoined_56 ?_
          refine lv_i2l (v := (kAF x1.toNatClampNeg).toInt64) hx hb dX5_addedJoined_57 rfl ?_
          refine lv_lsub hx hb dX5_addedJoined_58 ?_
          refine lv_iload hx hb dX5_addedJoined_59 (lv_at hl 0 rfl) ?_
          refine lv_i2l (v := (kAM x1.toNatClampNeg).toInt64) hx hb dX5_addedJoined_61 rfl ?_
          obtain ⟨z_17, hf⟩ := ite_n hf
          refine zz_lrem hx hb dX5_addedJoined_62 z_17 ?_
          refine lv_lstore (lv' := [(9, .long (lRem ((r_14 + (kAM x1.toNatClampNeg).toInt64) - (kAF x1.toNatClampNeg).toInt64) ((kAM x1.toNatClampNeg).toInt64))), (8, .int (kAM x1.toNatClampNeg)), (0, .ref hsf), (1, .int x1), (2, .long x2), (4, .long x4), (6, .long x6)]) hx hb dX5_addedJoined_63 hl (by decide) rfl (fun ls hl => ?_)
          refine lv_iload_n hx hb dX5_addedJoined_65 rfl (lv_at hl 3 rfl) ?_
          refine lv_lload hx hb dX5_addedJoined_66 (lv_at hl 5 rfl) ?_
          obtain ⟨r_18, h_19, hf⟩ := bind_some hf
          have hP_r_18 : va_P D vwCl [] s.heap := hP.sub [] rfl
          refine cz_l (va_runS (As := [.int x1, .long x4]) (rest := []) ⟨hx, hb, hml, hown, hts⟩ (ctX5_lowHalf l D cy N tAM tAH tAF  x1 x4 r_18 h_19) (va_cwS 2 hts gX5_addedJoined_X5_lowHalf rfl rfl rfl (by decide +kernel) ⟨Nat.le_of_ble_eq_true rfl, Nat.le_of_ble_eq_true rfl⟩) (preS_rdT (tab5 tAM tAH tAF _) [.int x1, .long x4] hP_r_18 hB hZ) rfl rfl hl.1 rfl (lv_room (Nat.le_of_ble_eq_true rfl)) dX5_addedJoined_68 ⟨Nat.zero_le _, Nat.zero_le _⟩) ?_
          refine lv_lload hx hb dX5_addedJoined_71 (lv_at hl 0 rfl) ?_
          refine lv_ladd hx hb dX5_addedJoined_73 ?_
          refine lv_iload hx hb dX5_addedJoined_74 (lv_at hl 1 rfl) ?_
          refine lv_i2l (v := (kAM x1.toNatClampNeg).toInt64) hx hb dX5_addedJoined_76 rfl ?_
          obtain ⟨z_20, hf⟩ := ite_n hf
          refine zz_lrem hx hb dX5_addedJoined_77 z_20 ?_
          refine lv_lstore (lv' := [(11, .long (lRem (r_18 + (lRem ((r_14 + (kAM x1.toNatClampNeg).toInt64) - (kAF x1.toNatClampNeg).toInt64) ((kAM x1.toNatClampNeg).toInt64))) ((kAM x1.toNatClampNeg).toInt64))), (9, .long (lRem ((r_14 + (kAM x1.toNatClampNeg).toInt64) - (kAF x1.toNatClampNeg).toInt64) ((kAM x1.toNatClampNeg).toInt64))), (8, .int (kAM x1.toNatClampNeg)), (0, .ref hsf), (1, .int x1), (2, .long x2), (4, .long x4), (6, .long x6)]) hx hb dX5_addedJoined_78 hl (by decide) rfl (fun ls hl => ?_)
          refine lv_iload_n hx hb dX5_addedJoined_80 rfl (lv_at hl 4 rfl) ?_
          refine lv_lload_n hx hb dX5_addedJoined_81 rfl (lv_at hl 5 rfl) ?_
          obtain ⟨r_21, h_22, hf⟩ := bind_some hf
          have hP_r_21 : va_P D vwCl [] s.heap := hP.sub [] rfl
          refine cz_l (va_runS (As := [.int x1, .long x2]) (rest := []) ⟨hx, hb, hml, hown, hts⟩ (ctX5_highHalf l D cy N tAM tAH tAF  x1 x2 r_21 h_22) (va_cwS 2 hts gX5_addedJoined_X5_highHalf rfl rfl rfl (by decide +kernel) ⟨Nat.le_of_ble_eq_true rfl, Nat.le_of_ble_eq_true rfl⟩) (preS_rdT (tab5 tAM tAH tAF _) [.int x1, .long x2] hP_r_21 hB hZ) rfl rfl hl.1 rfl (lv_room (Nat.le_of_ble_eq_true rfl)) dX5_addedJoined_82 ⟨Nat.zero_le _, Nat.zero_le _⟩) ?_
          refine lv_iload_n hx hb dX5_addedJoined_85 rfl (lv_at hl 4 rfl) ?_
          refine lv_lload hx hb dX5_addedJoined_86 (lv_at hl 6 rfl) ?_
          obtain ⟨r_23, h_24, hf⟩ := bind_some hf
          have hP_r_23 : va_P D vwCl [] s.heap := hP.sub [] rfl
          refine cz_l (va_runS (As := [.int x1, .long x4]) (rest := [.long r_21]) ⟨hx, hb, hml, hown, hts⟩ (ctX5_highHalf l D cy N tAM tAH tAF  x1 x4 r_23 h_24) (va_cwS 2 hts gX5_addedJoined_X5_highHalf rfl rfl rfl (by decide +kernel) ⟨Nat.le_of_ble_eq_true rfl, Nat.le_of_ble_eq_true rfl⟩) (preS_rdT (tab5 tAM tAH tAF _) [.int x1, .long x4] hP_r_23 hB hZ) rfl rfl hl.1 rfl (lv_room (Nat.le_of_ble_eq_true rfl)) dX5_addedJoined_88 ⟨Nat.zero_le _, Nat.zero_le _⟩) ?_
          refine lv_ladd hx hb dX5_addedJoined_91 ?_
          refine lv_lload hx hb dX5_addedJoined_92 (lv_at hl 7 rfl) ?_
          refine lv_iload hx hb dX5_addedJoined_94 (lv_at hl 2 rfl) ?_
          refine lv_i2l (v := (kAM x1.toNatClampNeg).toInt64) hx hb dX5_addedJoined_96 rfl ?_
          obtain ⟨z_25, hf⟩ := ite_n hf
          refine zz_lrem hx hb dX5_addedJoined_97 z_25 ?_
          refine lv_lload hx hb dX5_addedJoined_98 (lv_at hl 1 rfl) ?_
          refine lv_lmul hx hb dX5_addedJoined_100 ?_
          refine lv_ladd hx hb dX5_addedJoined_101 ?_
          refine lv_iload hx hb dX5_addedJoined_102 (lv_at hl 2 rfl) ?_
          refine lv_i2l (v := (kAM x1.toNatClampNeg).toInt64) hx hb dX5_addedJoined_104 rfl ?_
          obtain ⟨z_26, hf⟩ := ite_n hf
          refine zz_lrem hx hb dX5_addedJoined_105 z_26 ?_
          refine lv_lstore (lv' := [(13, .long (lRem ((r_21 + r_23) + ((lRem x6 ((kAM x1.toNatClampNeg).toInt64)) * (lRem ((r_14 + (kAM x1.toNatClampNeg).toInt64) - (kAF x1.toNatClampNeg).toInt64) ((kAM x1.toNatClampNeg).toInt64)))) ((kAM x1.toNatClampNeg).toInt64))), (11, .long (lRem (r_18 + (lRem ((r_14 + (kAM x1.toNatClampNeg).toInt64) - (kAF x1.toNatClampNeg).toInt64) ((kAM x1.toNatClampNeg).toInt64))) ((kAM x1.toNatClampNeg).toInt64))), (9, .long (lRem ((r_14 + (kAM x1.toNatClampNeg).toInt64) - (kAF x1.toNatClampNeg).toInt64) ((kAM x1.toNatClampNeg).toInt64))), (8, .int (kAM x1.toNatClampNeg)), (0, .ref hsf), (1, .int x1), (2, .long x2), (4, .long x4), (6, .long x6)]) hx hb dX5_addedJoined_106 hl (by decide) rfl (fun ls hl => ?_)
          refine lv_iload_n hx hb dX5_addedJoined_108 rfl (lv_at hl 5 rfl) ?_
          refine lv_lload hx hb dX5_addedJoined_109 (lv_at hl 1 rfl) ?_
          refine lv_lload hx hb dX5_addedJoined_111 (lv_at hl 0 rfl) ?_
          obtain ⟨r_27, h_28, hf⟩ := bind_some hf
          have hP_r_27 : va_P D vwCl [] s.heap := hP.sub [] rfl
          refine cz_l (va_runS (As := [.int x1, .long (lRem (r_18 + (lRem ((r_14 + (kAM x1.toNatClampNeg).toInt64) - (kAF x1.toNatClampNeg).toInt64) ((kAM x1.toNatClampNeg).toInt64))) ((kAM x1.toNatClampNeg).toInt64)), .long (lRem ((r_21 + r_23) + ((lRem x6 ((kAM x1.toNatClampNeg).toInt64)) * (lRem ((r_14 + (kAM x1.toNatClampNeg).toInt64) - (kAF x1.toNatClampNeg).toInt64) ((kAM x1.toNatClampNeg).toInt64)))) ((kAM x1.toNatClampNeg).toInt64))]) (rest := []) ⟨hx, hb, hml, hown, hts⟩ (ctX5_halves l D cy N tAM tAH tAF  x1 (lRem (r_18 + (lRem ((r_14 + (kAM x1.toNatClampNeg).toInt64) - (kAF x1.toNatClampNeg).toInt64) ((kAM x1.toNatClampNeg).toInt64))) ((kAM x1.toNatClampNeg).toInt64)) (lRem ((r_21 + r_23) + ((lRem x6 ((kAM x1.toNatClampNeg).toInt64)) * (lRem ((r_14 + (kAM x1.toNatClampNeg).toInt64) - (kAF x1.toNatClampNeg).toInt64) ((kAM x1.toNatClampNeg).toInt64)))) ((kAM x1.toNatClampNeg).toInt64)) r_27 h_28) (va_cwS 3 hts gX5_addedJoined_X5_halves rfl rfl rfl (by decide +kernel) ⟨Nat.le_of_ble_eq_true rfl, Nat.le_of_ble_eq_true rfl⟩) (preS_rdT (tab5 tAM tAH tAF _) [.int x1, .long (lRem (r_18 + (lRem ((r_14 + (kAM x1.toNatClampNeg).toInt64) - (kAF x1.toNatClampNeg).toInt64) ((kAM x1.toNatClampNeg).toInt64))) ((kAM x1.toNatClampNeg).toInt64)), .long (lRem ((r_21 + r_23) + ((lRem x6 ((kAM x1.toNatClampNeg).toInt64)) * (lRem ((r_14 + (kAM x1.toNatClampNeg).toInt64) - (kAF x1.toNatClampNeg).toInt64) ((kAM x1.toNatClampNeg).toInt64)))) ((kAM x1.toNatClampNeg).toInt64))] hP_r_27 hB hZ) rfl rfl hl.1 rfl (lv_room (Nat.le_of_ble_eq_true rfl)) dX5_addedJoined_113 ⟨Nat.zero_le _, Nat.zero_le _⟩) ?_
          exact W.lret (v := r_27) hx hb hr (fun t ht hW => ⟨_, rfl, Option.some.inj hf, ht⟩) (fun _ h => absurd h List.not_mem_nil) dX5_addedJoined_116
        · have hf := ite_t hf c_12
          refine lv_ldc2 (v := (-1 : Int64)) hx hb hown (hts _ mX5_addedJoined_0) dX5_addedJoined_32 ?_
          exact W.lret (v := (-1 : Int64)) hx hb hr (fun t ht hW => ⟨_, rfl, Option.some.inj hf, ht⟩) (fun _ h => absurd h List.not_mem_nil) dX5_addedJoined_35
/-! SumForms.isForm(I)Z -/
abbrev rX5_isForm : Room := { frames := 0, cells := 0, slots := 0, locals := 0 }
theorem mX5_isForm_0 : Cond.fieldLink RX5 23 "SumForms" "formCount" "I" ∈ wsX5_isForm := by decide +kernel
theorem inX5_isForm_X5 : ∀ w ∈ u_ws RX5 TX5 5, w ∈ wsX5_isForm := by decide +kernel
abbrev GX5_isForm (p : Program) (l : Launch) (e : Env) (s : State) (m : MethodId) (args : Array Value) (below : List Frame) (meth : Method) (c : Code) (r0 : Int32) (fr : JFrame) : Prop := W p l e (headSpec wsX5_isForm rX5_isForm).room s m args below meth c s.heap [] 0 0 (MQ below (vp_Si (fun r => r = r0)) args s 0 0 (fun _ => False)) fr
def fX5_isForm (N : Nat) (sC : Int32) (x1 : Int32) : Option (Int32) := (if x1 < 0 then (some (0 : Int32)) else (if sC ≤ x1 then (some (0 : Int32)) else (some (1 : Int32))))
set_option maxHeartbeats 4000000 in
set_option maxRecDepth 100000 in
theorem ctX5_isForm (l : Launch) (D : va_G) (cy : Nat → ClassId) (N : Nat) (hsf hst hsq hre : Nat) (sN : Int32) (sC : Int32) (x1 : Int32) (r0 : Int32) (hf : fX5_isForm N sC x1 = some r0) : Met l yX5_isForm wsX5_isForm rX5_isForm (va_Pc [.ref hsf, .int x1] (Rd D cy [(hsf, .inr (4, [.ref hst, .int sN, .ref hsq, .int sC, .ref hre]))])) (vp_Si (fun r => r = r0)) 0 0 (fun _ => False) := by
  refine Met.ofW (cc := cX5_isForm) (maxL := 2) (ret := (some .boolean)) (by decide) rfl ?_
  intro p e s m args below meth c s₁ B hml hv
  obtain ⟨rfl, hP, hB⟩ := hv
  have hx := B.exec
  have hb := B.bytes
  have hr := B.returns
  have hts := atoms_spec (ws := wsX5_isForm) B.pre
  have hown : s.vm.findClass RX5 = some m.cls := findClass_of_methodNamed B.named
  have hlocks := B.notSynchronized
  have hK := hB.1
  have hN := hB.2
  have hl := lv_entry ([.ref hsf, .int x1]) (n := 2) (Nat.le_of_ble_eq_true rfl)
  rw [lg_entry_eq]
  generalize (lg_sl ([.ref hsf, .int x1]) ++ List.replicate (2 - (lg_sl ([.ref hsf, .int x1])).length) Slot.unset).toArray = ls at hl ⊢
  have hl : lv_has ls 2 [(0, .ref hsf), (1, .int x1)] := hl
  have E0 : En p m c cX5_isForm 2 s ([.ref hsf, .int x1] : List Value).toArray wsX5_isForm RX5 meth (some .boolean) D cy := ⟨⟨hx, hb, hml, hown, hts⟩, hr, hlocks, hB⟩
  unfold fX5_isForm at hf
  refine lv_iload_n hx hb dX5_isForm_0 rfl (lv_at hl 1 rfl) ?_
  refine lv_if_lt (tgt := 16) hx hb dX5_isForm_1 (by decide) (fun c_1 => ?_) (fun c_1 => ?_)
  · have hf := ite_t hf c_1
    refine lv_iconst (v := (0 : Int32)) hx hb dX5_isForm_16 (by decide) ?_
    exact W.zret (v := (0 : Int32)) hx hb hr rfl (fun t ht hW => ⟨_, rfl, Option.some.inj hf, ht⟩) (fun _ h => absurd h List.not_mem_nil) dX5_isForm_17
  · have hf := ite_f hf c_1
    refine lv_iload_n hx hb dX5_isForm_4 rfl (lv_at hl 1 rfl) ?_
    refine lv_aload_n hx hb dX5_isForm_5 rfl (lv_at hl 0 rfl) ?_
    refine va_get (D := D) (ci := 4) (v := .int sC) (C := RX5) (T := TX5) (N := 5) hx hb hts inX5_isForm_X5 hown hK hP 0 rfl rfl 3 (by decide) (hts _ mX5_isForm_0) (fun _ h9 => h9) rfl dX5_isForm_6 ?_
    refine lv_icmp_ge (tgt := 16) hx hb dX5_isForm_9 (by decide) (fun c_2 => ?_) (fun c_2 => ?_)
    · have hf := ite_t hf c_2
      refine lv_iconst (v := (0 : Int32)) hx hb dX5_isForm_16 (by decide) ?_
      exact W.zret (v := (0 : Int32)) hx hb hr rfl (fun t ht hW => ⟨_, rfl, Option.some.inj hf, ht⟩) (fun _ h => absurd h List.not_mem_nil) dX5_isForm_17
    · have hf := ite_f hf c_2
      refine lv_iconst (v := (1 : Int32)) hx hb dX5_isForm_12 (by decide) ?_
      refine lv_goto (tgt := 17) hx hb dX5_isForm_13 (by decide) ?_
      exact W.zret (v := (1 : Int32)) hx hb hr rfl (fun t ht hW => ⟨_, rfl, Option.some.inj hf, ht⟩) (fun _ h => absurd h List.not_mem_nil) dX5_isForm_17
/-! SumForms.hasBits(JI)Z -/
abbrev rX5_hasBits : Room := { frames := 0, cells := 0, slots := 0, locals := 0 }
abbrev GX5_hasBits (p : Program) (l : Launch) (e : Env) (s : State) (m : MethodId) (args : Array Value) (below : List Frame) (meth : Method) (c : Code) (r0 : Int32) (fr : JFrame) : Prop := W p l e (headSpec wsX5_hasBits rX5_hasBits).room s m args below meth c s.heap [] 0 0 (MQ below (vp_Si (fun r => r = r0)) args s 0 0 (fun _ => False)) fr
def fX5_hasBits (N : Nat)  (x0 : Int64) (x2 : Int32) : Option (Int32) := (if x0 < (0 : Int64) then (some (0 : Int32)) else (if (lShl (1 : Int64) x2) ≤ x0 then (some (0 : Int32)) else (some (1 : Int32))))
set_option maxHeartbeats 4000000 in
set_option maxRecDepth 100000 in
theorem ctX5_hasBits (l : Launch) (D : va_G) (cy : Nat → ClassId) (N : Nat)  (x0 : Int64) (x2 : Int32) (r0 : Int32) (hf : fX5_hasBits N x0 x2 = some r0) : Met l yX5_hasBits wsX5_hasBits rX5_hasBits (va_Pc [.long x0, .int x2] (Rd D cy [])) (vp_Si (fun r => r = r0)) 0 0 (fun _ => False) := by
  refine Met.ofW (cc := cX5_hasBits) (maxL := 3) (ret := (some .boolean)) (by decide) rfl ?_
  intro p e s m args below meth c s₁ B hml hv
  obtain ⟨rfl, hP, hB⟩ := hv
  have hx := B.exec
  have hb := B.bytes
  have hr := B.returns
  have hts := atoms_spec (ws := wsX5_hasBits) B.pre
  have hown : s.vm.findClass RX5 = some m.cls := findClass_of_methodNamed B.named
  have hlocks := B.notSynchronized
  have hK := hB.1
  have hN := hB.2
  have hl := lv_entry ([.long x0, .int x2]) (n := 3) (Nat.le_of_ble_eq_true rfl)
  rw [lg_entry_eq]
  generalize (lg_sl ([.long x0, .int x2]) ++ List.replicate (3 - (lg_sl ([.long x0, .int x2])).length) Slot.unset).toArray = ls at hl ⊢
  have hl : lv_has ls 3 [(0, .long x0), (2, .int x2)] := hl
  have E0 : En p m c cX5_hasBits 3 s ([.long x0, .int x2] : List Value).toArray wsX5_hasBits RX5 meth (some .boolean) D cy := ⟨⟨hx, hb, hml, hown, hts⟩, hr, hlocks, hB⟩
  unfold fX5_hasBits at hf
  refine lv_lload_n hx hb dX5_hasBits_0 rfl (lv_at hl 0 rfl) ?_
  refine lv_lconst (v := (0 : Int64)) hx hb dX5_hasBits_1 (by decide) ?_
  refine zz_lc_lt (tgt := 18) hx hb dX5_hasBits_2 dX5_hasBits_3 (by decide) (fun c_1 => ?_) (fun c_1 => ?_)
  · have hf := ite_t hf c_1
    refine lv_iconst (v := (0 : Int32)) hx hb dX5_hasBits_18 (by decide) ?_
    exact W.zret (v := (0 : Int32)) hx hb hr rfl (fun t ht hW => ⟨_, rfl, Option.some.inj hf, ht⟩) (fun _ h => absurd h List.not_mem_nil) dX5_hasBits_19
  · have hf := ite_f hf c_1
    refine lv_lload_n hx hb dX5_hasBits_6 rfl (lv_at hl 0 rfl) ?_
    refine lv_lconst (v := (1 : Int64)) hx hb dX5_hasBits_7 (by decide) ?_
    refine lv_iload_n hx hb dX5_hasBits_8 rfl (lv_at hl 1 rfl) ?_
    refine zz_lshl hx hb dX5_hasBits_9 ?_
    refine zz_lc_ge (tgt := 18) hx hb dX5_hasBits_10 dX5_hasBits_11 (by decide) (fun c_2 => ?_) (fun c_2 => ?_)
    · have hf := ite_t hf c_2
      refine lv_iconst (v := (0 : Int32)) hx hb dX5_hasBits_18 (by decide) ?_
      exact W.zret (v := (0 : Int32)) hx hb hr rfl (fun t ht hW => ⟨_, rfl, Option.some.inj hf, ht⟩) (fun _ h => absurd h List.not_mem_nil) dX5_hasBits_19
    · have hf := ite_f hf c_2
      refine lv_iconst (v := (1 : Int32)) hx hb dX5_hasBits_14 (by decide) ?_
      refine lv_goto (tgt := 19) hx hb dX5_hasBits_15 (by decide) ?_
      exact W.zret (v := (1 : Int32)) hx hb hr rfl (fun t ht hW => ⟨_, rfl, Option.some.inj hf, ht⟩) (fun _ h => absurd h List.not_mem_nil) dX5_hasBits_19
/-! SumForms.isSum(IJ)Z -/
abbrev rX5_isSum : Room := { frames := 1, cells := 0, slots := 0, locals := 22 }
theorem mX5_isSum_0 : Cond.fieldLink RX5 19 "SumForms" "forms" "[LSumForms$Form;" ∈ wsX5_isSum := by decide +kernel
theorem inX5_isSum_X1 : ∀ w ∈ u_ws RX1 TX1 8, w ∈ wsX5_isSum := by decide +kernel
theorem inX5_isSum_X5 : ∀ w ∈ u_ws RX5 TX5 5, w ∈ wsX5_isSum := by decide +kernel
abbrev GX5_isSum (p : Program) (l : Launch) (e : Env) (s : State) (m : MethodId) (args : Array Value) (below : List Frame) (meth : Method) (c : Code) (r0 : Int32) (fr : JFrame) : Prop := W p l e (headSpec wsX5_isSum rX5_isSum).room s m args below meth c s.heap [] 0 0 (MQ below (vp_Si (fun r => r = r0)) args s 0 0 (fun _ => False)) fr
def fX5_isSum (N : Nat) (sC : Int32) (rw : Int32) (x1 : Int32) (x2 : Int64) : Option (Int32) := ((fX5_isForm N sC x1).bind (fun r_1 => (if r_1 = 0 then (some (0 : Int32)) else (if OOB x1 8 then none else ((fX5_hasBits N x2 rw).bind (fun r_5 => (if r_5 = 0 then (some (0 : Int32)) else (some (1 : Int32)))))))))
set_option maxHeartbeats 4000000 in
set_option maxRecDepth 100000 in
theorem ctX5_isSum (l : Launch) (D : va_G) (cy : Nat → ClassId) (N : Nat) (hsf hst hsq hre hfo hfa hun : Nat) (sN : Int32) (sC : Int32) (sQ : Nat → Option Nat) (rw : Int32) (rg : Int64) (rs : Int64) (re : Int64) (ri : Int32) (ro : Int32) (x1 : Int32) (x2 : Int64) (r0 : Int32) (hQ : vp_in x1 8 → sQ x1.toNatClampNeg = some hfo) (hf : fX5_isSum N sC rw x1 x2 = some r0) : Met l yX5_isSum wsX5_isSum rX5_isSum (va_Pc [.ref hsf, .int x1, .long x2] (Rd D cy [(hsf, .inr (4, [.ref hst, .int sN, .ref hsq, .int sC, .ref hre])), (hsq, .inl (cy 3, 8, .inr (.inr (.inr (.inr sQ))))), (hfo, .inr (1, [.int rw, .long rg, .long rs, .long re, .int ri, .int ro, .ref hfa, .ref hun]))])) (vp_Si (fun r => r = r0)) 0 0 (fun _ => False) := by
  refine Met.ofW (cc := cX5_isSum) (maxL := 4) (ret := (some .boolean)) (by decide) rfl ?_
  intro p e s m args below meth c s₁ B hml hv
  obtain ⟨rfl, hP, hB⟩ := hv
  have hx := B.exec
  have hb := B.bytes
  have hr := B.returns
  have hts := atoms_spec (ws := wsX5_isSum) B.pre
  have hown : s.vm.findClass RX5 = some m.cls := findClass_of_methodNamed B.named
  have hlocks := B.notSynchronized
  have hK := hB.1
  have hN := hB.2
  have hl := lv_entry ([.ref hsf, .int x1, .long x2]) (n := 4) (Nat.le_of_ble_eq_true rfl)
  rw [lg_entry_eq]
  generalize (lg_sl ([.ref hsf, .int x1, .long x2]) ++ List.replicate (4 - (lg_sl ([.ref hsf, .int x1, .long x2])).length) Slot.unset).toArray = ls at hl ⊢
  have hl : lv_has ls 4 [(0, .ref hsf), (1, .int x1), (2, .long x2)] := hl
  have E0 : En p m c cX5_isSum 4 s ([.ref hsf, .int x1, .long x2] : List Value).toArray wsX5_isSum RX5 meth (some .boolean) D cy := ⟨⟨hx, hb, hml, hown, hts⟩, hr, hlocks, hB⟩
  unfold fX5_isSum at hf
  refine lv_aload_n hx hb dX5_isSum_0 rfl (lv_at hl 0 rfl) ?_
  refine lv_iload_n hx hb dX5_isSum_1 rfl (lv_at hl 1 rfl) ?_
  obtain ⟨r_1, h_2, hf⟩ := bind_some hf
  have hP_r_1 : va_P D vwCl [(hsf, .inr (4, [.ref hst, .int sN, .ref hsq, .int sC, .ref hre]))] s.heap := hP.sub [0] rfl
  refine cz_i (va_runV (As := [.int x1]) (rest := []) ⟨hx, hb, hml, hown, hts⟩ (ctX5_isForm l D cy N hsf hst hsq hre sN sC x1 r_1 h_2) (cwV 1 hts gX5_isSum_X5_isForm rfl rfl rfl (by decide +kernel) ⟨Nat.le_of_ble_eq_true rfl, Nat.le_of_ble_eq_true rfl⟩) (preV_rd (ci := 4) (q0 := 0) [.int x1] hP_r_1 hB rfl rfl) rfl rfl hl.1 rfl (lv_room (Nat.le_of_ble_eq_true rfl)) dX5_isSum_2 ⟨Nat.zero_le _, Nat.zero_le _⟩) ?_
  refine lv_if_eq (tgt := 28) hx hb dX5_isSum_5 (by decide) (fun c_3 => ?_) (fun c_3 => ?_)
  · have hf := ite_t hf c_3
    refine lv_iconst (v := (0 : Int32)) hx hb dX5_isSum_28 (by decide) ?_
    exact W.zret (v := (0 : Int32)) hx hb hr rfl (fun t ht hW => ⟨_, rfl, Option.some.inj hf, ht⟩) (fun _ h => absurd h List.not_mem_nil) dX5_isSum_29
  · have hf := ite_f hf c_3
    refine lv_lload_n hx hb dX5_isSum_8 rfl (lv_at hl 2 rfl) ?_
    refine lv_aload_n hx hb dX5_isSum_9 rfl (lv_at hl 0 rfl) ?_
    refine va_get (D := D) (ci := 4) (v := .ref hsq) (C := RX5) (T := TX5) (N := 5) hx hb hts inX5_isSum_X5 hown hK hP 0 rfl rfl 2 (by decide) (hts _ mX5_isSum_0) (fun _ h9 => h9) rfl dX5_isSum_10 ?_
    refine lv_iload_n hx hb dX5_isSum_13 rfl (lv_at hl 1 rfl) ?_
    obtain ⟨b_4, hf⟩ := ite_n hf
    refine zz_aald hx hb hK hP 1 3 rfl rfl b_4 (hQ b_4) dX5_isSum_14 ?_
    refine va_getN (D := D) (ci := 1) (v := .int rw) (C := RX1) (T := TX1) (N := 8) hx hb hts inX5_isSum_X1 hown hK hP 2 rfl rfl 0 (by decide) (va_Nw.use rfl (nwX5_79 hN)) (fun _ h9 => h9) rfl dX5_isSum_15 ?_
    obtain ⟨r_5, h_6, hf⟩ := bind_some hf
    have hP_r_5 : va_P D vwCl [] s.heap := hP.sub [] rfl
    refine cz_i (va_runS (As := [.long x2, .int rw]) (rest := []) ⟨hx, hb, hml, hown, hts⟩ (ctX5_hasBits l D cy N   x2 rw r_5 h_6) (va_cwS 2 hts gX5_isSum_X5_hasBits rfl rfl rfl (by decide +kernel) ⟨Nat.le_of_ble_eq_true rfl, Nat.le_of_ble_eq_true rfl⟩) (preS_rd [.long x2, .int rw] hP_r_5 hB) rfl rfl hl.1 rfl (lv_room (Nat.le_of_ble_eq_true rfl)) dX5_isSum_18 ⟨Nat.zero_le _, Nat.zero_le _⟩) ?_
    refine lv_if_eq (tgt := 28) hx hb dX5_isSum_21 (by decide) (fun c_7 => ?_) (fun c_7 => ?_)
    · have hf := ite_t hf c_7
      refine lv_iconst (v := (0 : Int32)) hx hb dX5_isSum_28 (by decide) ?_
      exact W.zret (v := (0 : Int32)) hx hb hr rfl (fun t ht hW => ⟨_, rfl, Option.some.inj hf, ht⟩) (fun _ h => absurd h List.not_mem_nil) dX5_isSum_29
    · have hf := ite_f hf c_7
      refine lv_iconst (v := (1 : Int32)) hx hb dX5_isSum_24 (by decide) ?_
      refine lv_goto (tgt := 29) hx hb dX5_isSum_25 (by decide) ?_
      exact W.zret (v := (1 : Int32)) hx hb hr rfl (fun t ht hW => ⟨_, rfl, Option.some.inj hf, ht⟩) (fun _ h => absurd h List.not_mem_nil) dX5_isSum_29
/-! SumForms.changed(IJJI)J -/
abbrev rX5_changed : Room := { frames := 3, cells := 0, slots := 0, locals := 84 }
theorem mX5_changed_0 : Cond.constantLong RX5 50 (-1) ∈ wsX5_changed := by decide +kernel
theorem mX5_changed_1 : Cond.fieldLink RX5 19 "SumForms" "forms" "[LSumForms$Form;" ∈ wsX5_changed := by decide +kernel
theorem mX5_changed_2 : Cond.initialized RX1 ∈ wsX5_changed := by decide +kernel
theorem mX5_changed_3 : Cond.instanceMethod yX1_behindOctet ∈ wsX5_changed := by decide +kernel
theorem mX5_changed_4 : Cond.selects RX1 yX1_behindOctet yX1_behindOctet ∈ wsX5_changed := by decide +kernel
theorem mX5_changed_5 : Cond.instanceMethod yX1_movedByOctets ∈ wsX5_changed := by decide +kernel
theorem mX5_changed_6 : Cond.selects RX1 yX1_movedByOctets yX1_movedByOctets ∈ wsX5_changed := by decide +kernel
theorem mX5_changed_7 : Cond.instanceMethod yX1_registerOf ∈ wsX5_changed := by decide +kernel
theorem mX5_changed_8 : Cond.selects RX1 yX1_registerOf yX1_registerOf ∈ wsX5_changed := by decide +kernel
theorem mX5_changed_9 : Cond.instanceMethod yX1_sumOf ∈ wsX5_changed := by decide +kernel
theorem mX5_changed_10 : Cond.selects RX1 yX1_sumOf yX1_sumOf ∈ wsX5_changed := by decide +kernel
theorem inX5_changed_X5 : ∀ w ∈ u_ws RX5 TX5 5, w ∈ wsX5_changed := by decide +kernel
abbrev GX5_changed (p : Program) (l : Launch) (e : Env) (s : State) (m : MethodId) (args : Array Value) (below : List Frame) (meth : Method) (c : Code) (r0 : Int64) (fr : JFrame) : Prop := W p l e (headSpec wsX5_changed rX5_changed).room s m args below meth c s.heap [] 0 0 (MQ below (vp_Sl (fun r => r = r0)) args s 0 0 (fun _ => False)) fr
def fX5_changed (N : Nat) (sC : Int32) (rw : Int32) (rg : Int64) (re : Int64) (ri : Int32) (ro : Int32) (x1 : Int32) (x2 : Int64) (x4 : Int64) (x6 : Int32) : Option (Int64) := ((fX5_isSum N sC rw x1 x2).bind (fun r_1 => (if r_1 = 0 then (some (-1 : Int64)) else ((fX5_isLength N x4).bind (fun r_4 => (if r_4 = 0 then (some (-1 : Int64)) else (if x6 < 0 then (some (-1 : Int64)) else (if x6 ≤ (255 : Int32) then (if OOB x1 8 then none else ((fX1_behindOctet N rw rg ri (0 : Int64) x6).bind (fun r_10 => ((fX1_movedByOctets N rw rg r_10 x4).bind (fun r_12 => ((fX1_registerOf N rw re ro x2).bind (fun r_14 => ((fX1_sumOf N rw re ro (r_14 ^^^ r_12)).bind (fun r_16 => (some r_16)))))))))) else (some (-1 : Int64))))))))))
set_option maxHeartbeats 4000000 in
set_option maxRecDepth 100000 in
theorem ctX5_changed (l : Launch) (D : va_G) (cy : Nat → ClassId) (N : Nat) (hsf hst hsq hre hfo hfa hun : Nat) (sN : Int32) (sC : Int32) (sQ : Nat → Option Nat) (rw : Int32) (rg : Int64) (rs : Int64) (re : Int64) (ri : Int32) (ro : Int32) (x1 : Int32) (x2 : Int64) (x4 : Int64) (x6 : Int32) (r0 : Int64) (hQ : vp_in x1 8 → sQ x1.toNatClampNeg = some hfo) (hf : fX5_changed N sC rw rg re ri ro x1 x2 x4 x6 = some r0) : Met l yX5_changed wsX5_changed rX5_changed (va_Pc [.ref hsf, .int x1, .long x2, .long x4, .int x6] (Rd D cy [(hsf, .inr (4, [.ref hst, .int sN, .ref hsq, .int sC, .ref hre])), (hsq, .inl (cy 3, 8, .inr (.inr (.inr (.inr sQ))))), (hfo, .inr (1, [.int rw, .long rg, .long rs, .long re, .int ri, .int ro, .ref hfa, .ref hun]))])) (vp_Sl (fun r => r = r0)) 0 0 (fun _ => False) := by
  refine Met.ofW (cc := cX5_changed) (maxL := 10) (ret := (some .long)) (by decide) rfl ?_
  intro p e s m args below meth c s₁ B hml hv
  obtain ⟨rfl, hP, hB⟩ := hv
  have hx := B.exec
  have hb := B.bytes
  have hr := B.returns
  have hts := atoms_spec (ws := wsX5_changed) B.pre
  have hown : s.vm.findClass RX5 = some m.cls := findClass_of_methodNamed B.named
  have hlocks := B.notSynchronized
  have hK := hB.1
  have hN := hB.2
  have hl := lv_entry ([.ref hsf, .int x1, .long x2, .long x4, .int x6]) (n := 10) (Nat.le_of_ble_eq_true rfl)
  rw [lg_entry_eq]
  generalize (lg_sl ([.ref hsf, .int x1, .long x2, .long x4, .int x6]) ++ List.replicate (10 - (lg_sl ([.ref hsf, .int x1, .long x2, .long x4, .int x6])).length) Slot.unset).toArray = ls at hl ⊢
  have hl : lv_has ls 10 [(0, .ref hsf), (1, .int x1), (2, .long x2), (4, .long x4), (6, .int x6)] := hl
  have E0 : En p m c cX5_changed 10 s ([.ref hsf, .int x1, .long x2, .long x4, .int x6] : List Value).toArray wsX5_changed RX5 meth (some .long) D cy := ⟨⟨hx, hb, hml, hown, hts⟩, hr, hlocks, hB⟩
  unfold fX5_changed at hf
  refine lv_aload_n hx hb dX5_changed_0 rfl (lv_at hl 0 rfl) ?_
  refine lv_iload_n hx hb dX5_changed_1 rfl (lv_at hl 1 rfl) ?_
  refine lv_lload_n hx hb dX5_changed_2 rfl (lv_at hl 2 rfl) ?_
  obtain ⟨r_1, h_2, hf⟩ := bind_some hf
  have hP_r_1 : va_P D vwCl [(hsf, .inr (4, [.ref hst, .int sN, .ref hsq, .int sC, .ref hre])), (hsq, .inl (cy 3, 8, .inr (.inr (.inr (.inr sQ))))), (hfo, .inr (1, [.int rw, .long rg, .long rs, .long re, .int ri, .int ro, .ref hfa, .ref hun]))] s.heap := hP.sub [0, 1, 2] rfl
  refine cz_i (va_runV (As := [.int x1, .long x2]) (rest := []) ⟨hx, hb, hml, hown, hts⟩ (ctX5_isSum l D cy N hsf hst hsq hre hfo hfa hun sN sC sQ rw rg rs re ri ro x1 x2 r_1 hQ h_2) (cwV 2 hts gX5_changed_X5_isSum rfl rfl rfl (by decide +kernel) ⟨Nat.le_of_ble_eq_true rfl, Nat.le_of_ble_eq_true rfl⟩) (preV_rd (ci := 4) (q0 := 0) [.int x1, .long x2] hP_r_1 hB rfl rfl) rfl rfl hl.1 rfl (lv_room (Nat.le_of_ble_eq_true rfl)) dX5_changed_3 ⟨Nat.zero_le _, Nat.zero_le _⟩) ?_
  refine lv_if_eq (tgt := 30) hx hb dX5_changed_6 (by decide) (fun c_3 => ?_) (fun c_3 => ?_)
  · have hf := ite_t hf c_3
    refine lv_ldc2 (v := (-1 : Int64)) hx hb hown (hts _ mX5_changed_0) dX5_changed_30 ?_
    exact W.lret (v := (-1 : Int64)) hx hb hr (fun t ht hW => ⟨_, rfl, Option.some.inj hf, ht⟩) (fun _ h => absurd h List.not_mem_nil) dX5_changed_33
  · have hf := ite_f hf c_3
    refine lv_lload hx hb dX5_changed_9 (lv_at hl 3 rfl) ?_
    obtain ⟨r_4, h_5, hf⟩ := bind_some hf
    have hP_r_4 : va_P D vwCl [] s.heap := hP.sub [] rfl
    refine cz_i (va_runS (As := [.long x4]) (rest := []) ⟨hx, hb, hml, hown, hts⟩ (ctX5_isLength l D cy N   x4 r_4 h_5) (va_cwS 1 hts gX5_changed_X5_isLength rfl rfl rfl (by decide +kernel) ⟨Nat.le_of_ble_eq_true rfl, Nat.le_of_ble_eq_true rfl⟩) (preS_rd [.long x4] hP_r_4 hB) rfl rfl hl.1 rfl (lv_room (Nat.le_of_ble_eq_true rfl)) dX5_changed_11 ⟨Nat.zero_le _, Nat.zero_le _⟩) ?_
    refine lv_if_eq (tgt := 30) hx hb dX5_changed_14 (by decide) (fun c_6 => ?_) (fun c_6 => ?_)
    · have hf := ite_t hf c_6
      refine lv_ldc2 (v := (-1 : Int64)) hx hb hown (hts _ mX5_changed_0) dX5_changed_30 ?_
      exact W.lret (v := (-1 : Int64)) hx hb hr (fun t ht hW => ⟨_, rfl, Option.some.inj hf, ht⟩) (fun _ h => absurd h List.not_mem_nil) dX5_changed_33
    · have hf := ite_f hf c_6
      refine lv_iload hx hb dX5_changed_17 (lv_at hl 4 rfl) ?_
      refine lv_if_lt (tgt := 30) hx hb dX5_changed_19 (by decide) (fun c_7 => ?_) (fun c_7 => ?_)
      · have hf := ite_t hf c_7
        refine lv_ldc2 (v := (-1 : Int64)) hx hb hown (hts _ mX5_changed_0) dX5_changed_30 ?_
        exact W.lret (v := (-1 : Int64)) hx hb hr (fun t ht hW => ⟨_, rfl, Option.some.inj hf, ht⟩) (fun _ h => absurd h List.not_mem_nil) dX5_changed_33
      · have hf := ite_f hf c_7
        refine lv_iload hx hb dX5_changed_22 (lv_at hl 4 rfl) ?_
        refine lv_sipush (v := (255 : Int32)) hx hb dX5_changed_24 (by decide) ?_
        refine lv_icmp_le (tgt := 34) hx hb dX5_changed_27 (by decide) (fun c_8 => ?_) (fun c_8 => ?_)
        · have hf := ite_t hf c_8
          refine lv_aload_n hx hb dX5_changed_34 rfl (lv_at hl 0 rfl) ?_
          refine va_get (D := D) (ci := 4) (v := .ref hsq) (C := RX5) (T := TX5) (N := 5) hx hb hts inX5_changed_X5 hown hK hP 0 rfl rfl 2 (by decide) (hts _ mX5_changed_1) (fun _ h9 => h9) rfl dX5_changed_35 ?_
          refine lv_iload_n hx hb dX5_changed_38 rfl (lv_at hl 1 rfl) ?_
          obtain ⟨b_9, hf⟩ := ite_n hf
          refine zz_aald hx hb hK hP 1 3 rfl rfl b_9 (hQ b_9) dX5_changed_39 ?_
          refine lv_astore (lv' := [(7, .ref hfo), (0, .ref hsf), (1, .int x1), (2, .long x2), (4, .long x4), (6, .int x6)]) hx hb dX5_changed_40 hl (by decide) rfl (fun ls hl => ?_)
          refine lv_aload hx hb dX5_changed_42 (lv_at hl 0 rfl) ?_
          refine lv_aload hx hb dX5_changed_44 (lv_at hl 0 rfl) ?_
          refine lv_lconst (v := (0 : Int64)) hx hb dX5_changed_46 (by decide) ?_
          refine lv_iload hx hb dX5_changed_47 (lv_at hl 5 rfl) ?_
          obtain ⟨r_10, h_11, hf⟩ := bind_some hf
          have hP_r_10 : va_P D vwCl [(hfo, .inr (1, [.int rw, .long rg, .long rs, .long re, .int ri, .int ro, .ref hfa, .ref hun]))] s.heap := hP.sub [2] rfl
          refine cz_l (va_runVN (As := [.long (0 : Int64), .int x6]) (rest := [.ref hfo]) ⟨hx, hb, hml, hown, hts⟩ (ctX1_behindOctet l D cy N hfo hfa hun rw rg rs re ri ro (0 : Int64) x6 r_10 h_11) ⟨va_cnB 2 hts gX5_changed_X1_behindOctet_n56 rfl rfl rfl (nwX5_56 hN) (hts _ mX5_changed_2) (by decide +kernel) ⟨Nat.le_of_ble_eq_true rfl, Nat.le_of_ble_eq_true rfl⟩, hts _ mX5_changed_3, hts _ mX5_changed_4⟩ (preV_rd (ci := 1) (q0 := 0) [.long (0 : Int64), .int x6] hP_r_10 hB rfl rfl) rfl rfl hl.1 rfl (lv_room (Nat.le_of_ble_eq_true rfl)) dX5_changed_49 ⟨Nat.zero_le _, Nat.zero_le _⟩) ?_
          refine lv_lload hx hb dX5_changed_52 (lv_at hl 4 rfl) ?_
          obtain ⟨r_12, h_13, hf⟩ := bind_some hf
          have hP_r_12 : va_P D vwCl [(hfo, .inr (1, [.int rw, .long rg, .long rs, .long re, .int ri, .int ro, .ref hfa, .ref hun]))] s.heap := hP.sub [2] rfl
          refine cz_l (va_runVN (As := [.long r_10, .long x4]) (rest := []) ⟨hx, hb, hml, hown, hts⟩ (ctX1_movedByOctets l D cy N hfo hfa hun rw rg rs re ri ro r_10 x4 r_12 h_13) ⟨va_cnB 2 hts gX5_changed_X1_movedByOctets_n75 rfl rfl rfl (nwX5_75 hN) (hts _ mX5_changed_2) (by decide +kernel) ⟨Nat.le_of_ble_eq_true rfl, Nat.le_of_ble_eq_true rfl⟩, hts _ mX5_changed_5, hts _ mX5_changed_6⟩ (preV_rd (ci := 1) (q0 := 0) [.long r_10, .long x4] hP_r_12 hB rfl rfl) rfl rfl hl.1 rfl (lv_room (Nat.le_of_ble_eq_true rfl)) dX5_changed_54 ⟨Nat.zero_le _, Nat.zero_le _⟩) ?_
          refine lv_lstore (lv' := [(8, .long r_12), (7, .ref hfo), (0, .ref hsf), (1, .int x1), (2, .long x2), (4, .long x4), (6, .int x6)]) hx hb dX5_changed_57 hl (by decide) rfl (fun ls hl => ?_)
          refine lv_aload hx hb dX5_changed_59 (lv_at hl 1 rfl) ?_
          refine lv_aload hx hb dX5_changed_61 (lv_at hl 1 rfl) ?_
          refine lv_lload_n hx hb dX5_changed_63 rfl (lv_at hl 4 rfl) ?_
          obtain ⟨r_14, h_15, hf⟩ := bind_some hf
          have hP_r_14 : va_P D vwCl [(hfo, .inr (1, [.int rw, .long rg, .long rs, .long re, .int ri, .int ro, .ref hfa, .ref hun]))] s.heap := hP.sub [2] rfl
          refine cz_l (va_runVN (As := [.long x2]) (rest := [.ref hfo]) ⟨hx, hb, hml, hown, hts⟩ (ctX1_registerOf l D cy N hfo hfa hun rw rg rs re ri ro x2 r_14 h_15) ⟨va_cnB 1 hts gX5_changed_X1_registerOf_n72 rfl rfl rfl (nwX5_72 hN) (hts _ mX5_changed_2) (by decide +kernel) ⟨Nat.le_of_ble_eq_true rfl, Nat.le_of_ble_eq_true rfl⟩, hts _ mX5_changed_7, hts _ mX5_changed_8⟩ (preV_rd (ci := 1) (q0 := 0) [.long x2] hP_r_14 hB rfl rfl) rfl rfl hl.1 rfl (lv_room (Nat.le_of_ble_eq_true rfl)) dX5_changed_64 ⟨Nat.zero_le _, Nat.zero_le _⟩) ?_
          refine lv_lload hx hb dX5_changed_67 (lv_at hl 0 rfl) ?_
          refine lv_lxor hx hb dX5_changed_69 ?_
          obtain ⟨r_16, h_17, hf⟩ := bind_some hf
          have hP_r_16 : va_P D vwCl [(hfo, .inr (1, [.int rw, .long rg, .long rs, .long re, .int ri, .int ro, .ref hfa, .ref hun]))] s.heap := hP.sub [2] rfl
          refine cz_l (va_runVN (As := [.long (r_14 ^^^ r_12)]) (rest := []) ⟨hx, hb, hml, hown, hts⟩ (ctX1_sumOf l D cy N hfo hfa hun rw rg rs re ri ro (r_14 ^^^ r_12) r_16 h_17) ⟨va_cnB 1 hts gX5_changed_X1_sumOf_n60 rfl rfl rfl (nwX5_60 hN) (hts _ mX5_changed_2) (by decide +kernel) ⟨Nat.le_of_ble_eq_true rfl, Nat.le_of_ble_eq_true rfl⟩, hts _ mX5_changed_9, hts _ mX5_changed_10⟩ (preV_rd (ci := 1) (q0 := 0) [.long (r_14 ^^^ r_12)] hP_r_16 hB rfl rfl) rfl rfl hl.1 rfl (lv_room (Nat.le_of_ble_eq_true rfl)) dX5_changed_70 ⟨Nat.zero_le _, Nat.zero_le _⟩) ?_
          exact W.lret (v := r_16) hx hb hr (fun t ht hW => ⟨_, rfl, Option.some.inj hf, ht⟩) (fun _ h => absurd h List.not_mem_nil) dX5_changed_73
        · have hf := ite_f hf c_8
          refine lv_ldc2 (v := (-1 : Int64)) hx hb hown (hts _ mX5_changed_0) dX5_changed_30 ?_
          exact W.lret (v := (-1 : Int64)) hx hb hr (fun t ht hW => ⟨_, rfl, Option.some.inj hf, ht⟩) (fun _ h => absurd h List.not_mem_nil) dX5_changed_33
/-! SumForms.count(I)I -/
abbrev rX5_count : Room := { frames := 0, cells := 0, slots := 0, locals := 0 }
theorem mX5_count_0 : Cond.fieldLink RX5 13 "SumForms" "octets" "I" ∈ wsX5_count := by decide +kernel
theorem mX5_count_1 : Cond.fieldLink RX5 23 "SumForms" "formCount" "I" ∈ wsX5_count := by decide +kernel
theorem inX5_count_X5 : ∀ w ∈ u_ws RX5 TX5 5, w ∈ wsX5_count := by decide +kernel
abbrev GX5_count (p : Program) (l : Launch) (e : Env) (s : State) (m : MethodId) (args : Array Value) (below : List Frame) (meth : Method) (c : Code) (r0 : Int32) (fr : JFrame) : Prop := W p l e (headSpec wsX5_count rX5_count).room s m args below meth c s.heap [] 0 0 (MQ below (vp_Si (fun r => r = r0)) args s 0 0 (fun _ => False)) fr
def fX5_count (N : Nat) (sN : Int32) (sC : Int32) (x1 : Int32) : Option (Int32) := (if x1 = 0 then (some sC) else (if x1 = (1 : Int32) then (some sN) else (some (-1 : Int32))))
set_option maxHeartbeats 4000000 in
set_option maxRecDepth 100000 in
theorem ctX5_count (l : Launch) (D : va_G) (cy : Nat → ClassId) (N : Nat) (hsf hst hsq hre : Nat) (sN : Int32) (sC : Int32) (x1 : Int32) (r0 : Int32) (hf : fX5_count N sN sC x1 = some r0) : Met l yX5_count wsX5_count rX5_count (va_Pc [.ref hsf, .int x1] (Rd D cy [(hsf, .inr (4, [.ref hst, .int sN, .ref hsq, .int sC, .ref hre]))])) (vp_Si (fun r => r = r0)) 0 0 (fun _ => False) := by
  refine Met.ofW (cc := cX5_count) (maxL := 2) (ret := (some .int)) (by decide) rfl ?_
  intro p e s m args below meth c s₁ B hml hv
  obtain ⟨rfl, hP, hB⟩ := hv
  have hx := B.exec
  have hb := B.bytes
  have hr := B.returns
  have hts := atoms_spec (ws := wsX5_count) B.pre
  have hown : s.vm.findClass RX5 = some m.cls := findClass_of_methodNamed B.named
  have hlocks := B.notSynchronized
  have hK := hB.1
  have hN := hB.2
  have hl := lv_entry ([.ref hsf, .int x1]) (n := 2) (Nat.le_of_ble_eq_true rfl)
  rw [lg_entry_eq]
  generalize (lg_sl ([.ref hsf, .int x1]) ++ List.replicate (2 - (lg_sl ([.ref hsf, .int x1])).length) Slot.unset).toArray = ls at hl ⊢
  have hl : lv_has ls 2 [(0, .ref hsf), (1, .int x1)] := hl
  have E0 : En p m c cX5_count 2 s ([.ref hsf, .int x1] : List Value).toArray wsX5_count RX5 meth (some .int) D cy := ⟨⟨hx, hb, hml, hown, hts⟩, hr, hlocks, hB⟩
  unfold fX5_count at hf
  refine lv_iload_n hx hb dX5_count_0 rfl (lv_at hl 1 rfl) ?_
  refine lv_if_ne (tgt := 9) hx hb dX5_count_1 (by decide) (fun c_1 => ?_) (fun c_1 => ?_)
  · have hf := ite_f hf c_1
    refine lv_iload_n hx hb dX5_count_9 rfl (lv_at hl 1 rfl) ?_
    refine lv_iconst (v := (1 : Int32)) hx hb dX5_count_10 (by decide) ?_
    refine lv_icmp_ne (tgt := 21) hx hb dX5_count_11 (by decide) (fun c_2 => ?_) (fun c_2 => ?_)
    · have hf := ite_f hf c_2
      refine lv_iconst (v := (-1 : Int32)) hx hb dX5_count_21 (by decide) ?_
      exact W.iret (v := (-1 : Int32)) hx hb hr (fun t ht hW => ⟨_, rfl, Option.some.inj hf, ht⟩) (fun _ h => absurd h List.not_mem_nil) dX5_count_22
    · have hf := ite_t hf c_2
      refine lv_aload_n hx hb dX5_count_14 rfl (lv_at hl 0 rfl) ?_
      refine va_get (D := D) (ci := 4) (v := .int sN) (C := RX5) (T := TX5) (N := 5) hx hb hts inX5_count_X5 hown hK hP 0 rfl rfl 1 (by decide) (hts _ mX5_count_0) (fun _ h9 => h9) rfl dX5_count_15 ?_
      refine lv_goto (tgt := 22) hx hb dX5_count_18 (by decide) ?_
      exact W.iret (v := sN) hx hb hr (fun t ht hW => ⟨_, rfl, Option.some.inj hf, ht⟩) (fun _ h => absurd h List.not_mem_nil) dX5_count_22
  · have hf := ite_t hf c_1
    refine lv_aload_n hx hb dX5_count_4 rfl (lv_at hl 0 rfl) ?_
    refine va_get (D := D) (ci := 4) (v := .int sC) (C := RX5) (T := TX5) (N := 5) hx hb hts inX5_count_X5 hown hK hP 0 rfl rfl 3 (by decide) (hts _ mX5_count_1) (fun _ h9 => h9) rfl dX5_count_5 ?_
    exact W.iret (v := sC) hx hb hr (fun t ht hW => ⟨_, rfl, Option.some.inj hf, ht⟩) (fun _ h => absurd h List.not_mem_nil) dX5_count_8
/-! SumForms.cut(I)I -/
abbrev rX5_cut : Room := { frames := 0, cells := 0, slots := 0, locals := 0 }
theorem mX5_cut_0 : Cond.fieldLink RX5 13 "SumForms" "octets" "I" ∈ wsX5_cut := by decide +kernel
theorem inX5_cut_X5 : ∀ w ∈ u_ws RX5 TX5 5, w ∈ wsX5_cut := by decide +kernel
abbrev GX5_cut (p : Program) (l : Launch) (e : Env) (s : State) (m : MethodId) (args : Array Value) (below : List Frame) (meth : Method) (c : Code) (D : va_G) (cy : Nat → ClassId) (A : Nat → Prop) (hsf : Nat) (hst : Nat) (hsq : Nat) (hre : Nat) (sC : Int32) (r0 : Int32 × Int32) (H : Heap) (locs : List Loc) (fr : JFrame) : Prop := W p l e (headSpec wsX5_cut rX5_cut).room s m args below meth c H locs 0 0 (MQ below (Qwi D A [(hsf, .inr (4, [.ref hst, .int r0.2, .ref hsq, .int sC, .ref hre]))] r0.1) args s 0 0 A) fr
def fX5_cut (N : Nat) (sN : Int32) (x1 : Int32) : Option (Int32 × Int32) := (if x1 < 0 then (some ((-1 : Int32), sN)) else (if x1 ≤ sN then (some ((sN - x1), x1)) else (some ((-1 : Int32), sN))))
set_option maxHeartbeats 4000000 in
set_option maxRecDepth 100000 in
theorem ctX5_cut (l : Launch) (D : va_G) (cy : Nat → ClassId) (N : Nat) (hsf hst hsq hre : Nat) (sz : Nat) (sN : Int32) (sC : Int32) (x1 : Int32) (r0 : Int32 × Int32) (hf : fX5_cut N sN x1 = some r0) : Met l yX5_cut wsX5_cut rX5_cut (va_Pc [.ref hsf, .int x1] (Wr D cy [(hsf, .inr (4, [.ref hst, .int sN, .ref hsq, .int sC, .ref hre]))] sz)) (Qwi D (va_A [(hsf, .inr (4, [.ref hst, .int sN, .ref hsq, .int sC, .ref hre]))] sz) [(hsf, .inr (4, [.ref hst, .int r0.2, .ref hsq, .int sC, .ref hre]))] r0.1) 0 0 (va_A [(hsf, .inr (4, [.ref hst, .int sN, .ref hsq, .int sC, .ref hre]))] sz) := by
  refine Met.ofW (cc := cX5_cut) (maxL := 3) (ret := (some .int)) (by decide) rfl ?_
  intro p e s m args below meth c s₁ B hml hv
  obtain ⟨rfl, hsz, hP, hD0, hB⟩ := hv
  have hx := B.exec
  have hb := B.bytes
  have hr := B.returns
  have hts := atoms_spec (ws := wsX5_cut) B.pre
  have hown : s.vm.findClass RX5 = some m.cls := findClass_of_methodNamed B.named
  have hlocks := B.notSynchronized
  have hK := hB.1
  have hN := hB.2
  subst hsz
  have hD := hD0.self (sz := s.heap.size)
  have hA : ∀ q : Nat, s.heap.size ≤ q → va_A [(hsf, .inr (4, [.ref hst, .int sN, .ref hsq, .int sC, .ref hre]))] s.heap.size q := fun q h => Or.inr h
  generalize va_A [(hsf, .inr (4, [.ref hst, .int sN, .ref hsq, .int sC, .ref hre]))] s.heap.size = A at hD hA ⊢
  have hS : va_S A s.heap s.heap [] := va_S.rf
  have hl := lv_entry ([.ref hsf, .int x1]) (n := 3) (Nat.le_of_ble_eq_true rfl)
  rw [lg_entry_eq]
  generalize (lg_sl ([.ref hsf, .int x1]) ++ List.replicate (3 - (lg_sl ([.ref hsf, .int x1])).length) Slot.unset).toArray = ls at hl ⊢
  have hl : lv_has ls 3 [(0, .ref hsf), (1, .int x1)] := hl
  have E0 : En p m c cX5_cut 3 s ([.ref hsf, .int x1] : List Value).toArray wsX5_cut RX5 meth (some .int) D cy := ⟨⟨hx, hb, hml, hown, hts⟩, hr, hlocks, hB⟩
  unfold fX5_cut at hf
  refine lv_iload_n hx hb dX5_cut_0 rfl (lv_at hl 1 rfl) ?_
  refine lv_if_lt (tgt := 12) hx hb dX5_cut_1 (by decide) (fun c_1 => ?_) (fun c_1 => ?_)
  · have hf := ite_t hf c_1
    refine lv_iconst (v := (-1 : Int32)) hx hb dX5_cut_12 (by decide) ?_
    cases hf
    exact W.iret (v := (-1 : Int32)) hx hb hr (fun t ht hW => ⟨⟨_, (), rfl, rfl, by rw [ht]; exact hP, hD⟩, hS.F ht⟩) hS.2.2 dX5_cut_13
  · have hf := ite_f hf c_1
    refine lv_iload_n hx hb dX5_cut_4 rfl (lv_at hl 1 rfl) ?_
    refine lv_aload_n hx hb dX5_cut_5 rfl (lv_at hl 0 rfl) ?_
    refine va_get (D := D) (ci := 4) (v := .int sN) (C := RX5) (T := TX5) (N := 5) hx hb hts inX5_cut_X5 hown hK hP 0 rfl rfl 1 (by decide) (hts _ mX5_cut_0) (fun _ h9 => h9) rfl dX5_cut_6 ?_
    refine lv_icmp_le (tgt := 14) hx hb dX5_cut_9 (by decide) (fun c_2 => ?_) (fun c_2 => ?_)
    · have hf := ite_t hf c_2
      refine lv_aload_n hx hb dX5_cut_14 rfl (lv_at hl 0 rfl) ?_
      refine va_get (D := D) (ci := 4) (v := .int sN) (C := RX5) (T := TX5) (N := 5) hx hb hts inX5_cut_X5 hown hK hP 0 rfl rfl 1 (by decide) (hts _ mX5_cut_0) (fun _ h9 => h9) rfl dX5_cut_15 ?_
      refine lv_iload_n hx hb dX5_cut_18 rfl (lv_at hl 1 rfl) ?_
      refine lv_isub hx hb dX5_cut_19 ?_
      refine lv_istore_n (lv' := [(2, .int (sN - x1)), (0, .ref hsf), (1, .int x1)]) hx hb dX5_cut_20 rfl hl (by decide) rfl (fun ls hl => ?_)
      refine lv_aload_n hx hb dX5_cut_21 rfl (lv_at hl 1 rfl) ?_
      refine lv_iload_n hx hb dX5_cut_22 rfl (lv_at hl 2 rfl) ?_
      refine va_put (D := D) (ci := 4) (v := .int x1) (ty := .int) (C := RX5) (T := TX5) (N := 5) hx hb hts inX5_cut_X5 tyX5 tyX5_ok nmX5 hown hK hP hD hS 0 rfl rfl 1 (by decide) (hts _ mX5_cut_0) (fun _ h9 => h9) rfl (by decide +kernel) rfl rfl (Nat.le_of_ble_eq_true rfl) dX5_cut_23 (fun H3 locs4 hP hD hS => ?_)
      have hP : va_P D vwCl [(hsf, .inr (4, [.ref hst, .int x1, .ref hsq, .int sC, .ref hre]))] H3 := hP
      have hD : va_D A [(hsf, .inr (4, [.ref hst, .int x1, .ref hsq, .int sC, .ref hre]))] := hD
      refine lv_iload_n hx hb dX5_cut_26 rfl (lv_at hl 0 rfl) ?_
      cases hf
      exact W.iret (v := (sN - x1)) hx hb hr (fun t ht hW => ⟨⟨_, (), rfl, rfl, by rw [ht]; exact hP, hD⟩, hS.F ht⟩) hS.2.2 dX5_cut_27
    · have hf := ite_f hf c_2
      refine lv_iconst (v := (-1 : Int32)) hx hb dX5_cut_12 (by decide) ?_
      cases hf
      exact W.iret (v := (-1 : Int32)) hx hb hr (fun t ht hW => ⟨⟨_, (), rfl, rfl, by rw [ht]; exact hP, hD⟩, hS.F ht⟩) hS.2.2 dX5_cut_13

/-! SumForms$Form.become(IJJJZZ)V -/
abbrev rX1_become : Room := { frames := 0, cells := 0, slots := 0, locals := 0 }
theorem mX1_become_0 : Cond.fieldLink RX1 25 "SumForms$Form" "width" "I" ∈ wsX1_become := by decide +kernel
theorem mX1_become_1 : Cond.fieldLink RX1 29 "SumForms$Form" "generator" "J" ∈ wsX1_become := by decide +kernel
theorem mX1_become_2 : Cond.fieldLink RX1 33 "SumForms$Form" "start" "J" ∈ wsX1_become := by decide +kernel
theorem mX1_become_3 : Cond.fieldLink RX1 36 "SumForms$Form" "end" "J" ∈ wsX1_become := by decide +kernel
theorem mX1_become_4 : Cond.fieldLink RX1 39 "SumForms$Form" "in" "Z" ∈ wsX1_become := by decide +kernel
theorem mX1_become_5 : Cond.fieldLink RX1 43 "SumForms$Form" "out" "Z" ∈ wsX1_become := by decide +kernel
theorem inX1_become_X1 : ∀ w ∈ u_ws RX1 TX1 8, w ∈ wsX1_become := by decide +kernel
abbrev GX1_become (p : Program) (l : Launch) (e : Env) (s : State) (m : MethodId) (args : Array Value) (below : List Frame) (meth : Method) (c : Code) (D : va_G) (cy : Nat → ClassId) (A : Nat → Prop) (hfo : Nat) (hfa : Nat) (hun : Nat) (r0 : Int32 × Int64 × Int64 × Int64 × Int32 × Int32) (H : Heap) (locs : List Loc) (fr : JFrame) : Prop := W p l e (headSpec wsX1_become rX1_become).room s m args below meth c H locs 0 0 (MQ below (Qwv D A [(hfo, .inr (1, [.int r0.1, .long r0.2.1, .long r0.2.2.1, .long r0.2.2.2.1, .int r0.2.2.2.2.1, .int r0.2.2.2.2.2, .ref hfa, .ref hun]))]) args s 0 0 A) fr
def fX1_become (N : Nat) (rw : Int32) (rg : Int64) (rs : Int64) (re : Int64) (ri : Int32) (ro : Int32) (x1 : Int32) (x2 : Int64) (x4 : Int64) (x6 : Int64) (x8 : Int32) (x9 : Int32) : Option (Int32 × Int64 × Int64 × Int64 × Int32 × Int32) := (some (x1, ((lShl (1 : Int64) x1) ||| x2), x4, x6, x8, x9))
set_option maxHeartbeats 4000000 in
set_option maxRecDepth 100000 in
theorem ctX1_become (l : Launch) (D : va_G) (cy : Nat → ClassId) (N : Nat) (hfo hfa hun : Nat) (sz : Nat) (rw : Int32) (rg : Int64) (rs : Int64) (re : Int64) (ri : Int32) (ro : Int32) (x1 : Int32) (x2 : Int64) (x4 : Int64) (x6 : Int64) (x8 : Int32) (x9 : Int32) (r0 : Int32 × Int64 × Int64 × Int64 × Int32 × Int32) (hz_x8 : x8 = 0 ∨ x8 = 1) (hz_x9 : x9 = 0 ∨ x9 = 1) (hf : fX1_become N rw rg rs re ri ro x1 x2 x4 x6 x8 x9 = some r0) : Met l yX1_become wsX1_become rX1_become (va_Pc [.ref hfo, .int x1, .long x2, .long x4, .long x6, .int x8, .int x9] (Wr D cy [(hfo, .inr (1, [.int rw, .long rg, .long rs, .long re, .int ri, .int ro, .ref hfa, .ref hun]))] sz)) (Qwv D (va_A [(hfo, .inr (1, [.int rw, .long rg, .long rs, .long re, .int ri, .int ro, .ref hfa, .ref hun]))] sz) [(hfo, .inr (1, [.int r0.1, .long r0.2.1, .long r0.2.2.1, .long r0.2.2.2.1, .int r0.2.2.2.2.1, .int r0.2.2.2.2.2, .ref hfa, .ref hun]))]) 0 0 (va_A [(hfo, .inr (1, [.int rw, .long rg, .long rs, .long re, .int ri, .int ro, .ref hfa, .ref hun]))] sz) := by
  refine Met.ofW (cc := cX1_become) (maxL := 10) (ret := none) (by decide) rfl ?_
  intro p e s m args below meth c s₁ B hml hv
  obtain ⟨rfl, hsz, hP, hD0, hB⟩ := hv
  have hx := B.exec
  have hb := B.bytes
  have hr := B.returns
  have hts := atoms_spec (ws := wsX1_become) B.pre
  have hown : s.vm.findClass RX1 = some m.cls := findClass_of_methodNamed B.named
  have hlocks := B.notSynchronized
  have hK := hB.1
  have hN := hB.2
  subst hsz
  have hD := hD0.self (sz := s.heap.size)
  have hA : ∀ q : Nat, s.heap.size ≤ q → va_A [(hfo, .inr (1, [.int rw, .long rg, .long rs, .long re, .int ri, .int ro, .ref hfa, .ref hun]))] s.heap.size q := fun q h => Or.inr h
  generalize va_A [(hfo, .inr (1, [.int rw, .long rg, .long rs, .long re, .int ri, .int ro, .ref hfa, .ref hun]))] s.heap.size = A at hD hA ⊢
  have hS : va_S A s.heap s.heap [] := va_S.rf
  have hl := lv_entry ([.ref hfo, .int x1, .long x2, .long x4, .long x6, .int x8, .int x9]) (n := 10) (Nat.le_of_ble_eq_true rfl)
  rw [lg_entry_eq]
  generalize (lg_sl ([.ref hfo, .int x1, .long x2, .long x4, .long x6, .int x8, .int x9]) ++ List.replicate (10 - (lg_sl ([.ref hfo, .int x1, .long x2, .long x4, .long x6, .int x8, .int x9])).length) Slot.unset).toArray = ls at hl ⊢
  have hl : lv_has ls 10 [(0, .ref hfo), (1, .int x1), (2, .long x2), (4, .long x4), (6, .long x6), (8, .int x8), (9, .int x9)] := hl
  have E0 : En p m c cX1_become 10 s ([.ref hfo, .int x1, .long x2, .long x4, .long x6, .int x8, .int x9] : List Value).toArray wsX1_become RX1 meth none D cy := ⟨⟨hx, hb, hml, hown, hts⟩, hr, hlocks, hB⟩
  unfold fX1_become at hf
  refine lv_aload_n hx hb dX1_become_0 rfl (lv_at hl 0 rfl) ?_
  refine lv_iload_n hx hb dX1_become_1 rfl (lv_at hl 1 rfl) ?_
  refine va_put (D := D) (ci := 1) (v := .int x1) (ty := .int) (C := RX1) (T := TX1) (N := 8) hx hb hts inX1_become_X1 tyX1 tyX1_ok nmX1 hown hK hP hD hS 0 rfl rfl 0 (by decide) (hts _ mX1_become_0) (fun _ h9 => h9) rfl (by decide +kernel) rfl rfl (Nat.le_of_ble_eq_true rfl) dX1_become_2 (fun H1 locs2 hP hD hS => ?_)
  have hP : va_P D vwCl [(hfo, .inr (1, [.int x1, .long rg, .long rs, .long re, .int ri, .int ro, .ref hfa, .ref hun]))] H1 := hP
  have hD : va_D A [(hfo, .inr (1, [.int x1, .long rg, .long rs, .long re, .int ri, .int ro, .ref hfa, .ref hun]))] := hD
  refine lv_aload_n hx hb dX1_become_5 rfl (lv_at hl 0 rfl) ?_
  refine lv_lconst (v := (1 : Int64)) hx hb dX1_become_6 (by decide) ?_
  refine lv_iload_n hx hb dX1_become_7 rfl (lv_at hl 1 rfl) ?_
  refine zz_lshl hx hb dX1_become_8 ?_
  refine lv_lload_n hx hb dX1_become_9 rfl (lv_at hl 2 rfl) ?_
  refine lv_lor hx hb dX1_become_10 ?_
  refine va_put (D := D) (ci := 1) (v := .long ((lShl (1 : Int64) x1) ||| x2)) (ty := .long) (C := RX1) (T := TX1) (N := 8) hx hb hts inX1_become_X1 tyX1 tyX1_ok nmX1 hown hK hP hD hS 0 rfl rfl 1 (by decide) (hts _ mX1_become_1) (fun _ h9 => h9) rfl (by decide +kernel) rfl rfl (Nat.le_of_ble_eq_true rfl) dX1_become_11 (fun H3 locs4 hP hD hS => ?_)
  have hP : va_P D vwCl [(hfo, .inr (1, [.int x1, .long ((lShl (1 : Int64) x1) ||| x2), .long rs, .long re, .int ri, .int ro, .ref hfa, .ref hun]))] H3 := hP
  have hD : va_D A [(hfo, .inr (1, [.int x1, .long ((lShl (1 : Int64) x1) ||| x2), .long rs, .long re, .int ri, .int ro, .ref hfa, .ref hun]))] := hD
  refine lv_aload_n hx hb dX1_become_14 rfl (lv_at hl 0 rfl) ?_
  refine lv_lload hx hb dX1_become_15 (lv_at hl 3 rfl) ?_
  refine va_put (D := D) (ci := 1) (v := .long x4) (ty := .long) (C := RX1) (T := TX1) (N := 8) hx hb hts inX1_become_X1 tyX1 tyX1_ok nmX1 hown hK hP hD hS 0 rfl rfl 2 (by decide) (hts _ mX1_become_2) (fun _ h9 => h9) rfl (by decide +kernel) rfl rfl (Nat.le_of_ble_eq_true rfl) dX1_become_17 (fun H5 locs6 hP hD hS => ?_)
  have hP : va_P D vwCl [(hfo, .inr (1, [.int x1, .long ((lShl (1 : Int64) x1) ||| x2), .long x4, .long re, .int ri, .int ro, .ref hfa, .ref hun]))] H5 := hP
  have hD : va_D A [(hfo, .inr (1, [.int x1, .long ((lShl (1 : Int64) x1) ||| x2), .long x4, .long re, .int ri, .int ro, .ref hfa, .ref hun]))] := hD
  refine lv_aload_n hx hb dX1_become_20 rfl (lv_at hl 0 rfl) ?_
  refine lv_lload hx hb dX1_become_21 (lv_at hl 4 rfl) ?_
  refine va_put (D := D) (ci := 1) (v := .long x6) (ty := .long) (C := RX1) (T := TX1) (N := 8) hx hb hts inX1_become_X1 tyX1 tyX1_ok nmX1 hown hK hP hD hS 0 rfl rfl 3 (by decide) (hts _ mX1_become_3) (fun _ h9 => h9) rfl (by decide +kernel) rfl rfl (Nat.le_of_ble_eq_true rfl) dX1_become_23 (fun H7 locs8 hP hD hS => ?_)
  have hP : va_P D vwCl [(hfo, .inr (1, [.int x1, .long ((lShl (1 : Int64) x1) ||| x2), .long x4, .long x6, .int ri, .int ro, .ref hfa, .ref hun]))] H7 := hP
  have hD : va_D A [(hfo, .inr (1, [.int x1, .long ((lShl (1 : Int64) x1) ||| x2), .long x4, .long x6, .int ri, .int ro, .ref hfa, .ref hun]))] := hD
  refine lv_aload_n hx hb dX1_become_26 rfl (lv_at hl 0 rfl) ?_
  refine lv_iload hx hb dX1_become_27 (lv_at hl 5 rfl) ?_
  refine va_put (D := D) (ci := 1) (v := .int x8) (ty := .boolean) (C := RX1) (T := TX1) (N := 8) hx hb hts inX1_become_X1 tyX1 tyX1_ok nmX1 hown hK hP hD hS 0 rfl rfl 4 (by decide) (hts _ mX1_become_4) (fun _ h9 => h9) rfl (by decide +kernel) (bz_n hz_x8) (bz_f hz_x8) (Nat.le_of_ble_eq_true rfl) dX1_become_29 (fun H9 locs10 hP hD hS => ?_)
  have hP : va_P D vwCl [(hfo, .inr (1, [.int x1, .long ((lShl (1 : Int64) x1) ||| x2), .long x4, .long x6, .int x8, .int ro, .ref hfa, .ref hun]))] H9 := hP
  have hD : va_D A [(hfo, .inr (1, [.int x1, .long ((lShl (1 : Int64) x1) ||| x2), .long x4, .long x6, .int x8, .int ro, .ref hfa, .ref hun]))] := hD
  refine lv_aload_n hx hb dX1_become_32 rfl (lv_at hl 0 rfl) ?_
  refine lv_iload hx hb dX1_become_33 (lv_at hl 6 rfl) ?_
  refine va_put (D := D) (ci := 1) (v := .int x9) (ty := .boolean) (C := RX1) (T := TX1) (N := 8) hx hb hts inX1_become_X1 tyX1 tyX1_ok nmX1 hown hK hP hD hS 0 rfl rfl 5 (by decide) (hts _ mX1_become_5) (fun _ h9 => h9) rfl (by decide +kernel) (bz_n hz_x9) (bz_f hz_x9) (Nat.le_of_ble_eq_true rfl) dX1_become_35 (fun H11 locs12 hP hD hS => ?_)
  have hP : va_P D vwCl [(hfo, .inr (1, [.int x1, .long ((lShl (1 : Int64) x1) ||| x2), .long x4, .long x6, .int x8, .int x9, .ref hfa, .ref hun]))] H11 := hP
  have hD : va_D A [(hfo, .inr (1, [.int x1, .long ((lShl (1 : Int64) x1) ||| x2), .long x4, .long x6, .int x8, .int x9, .ref hfa, .ref hun]))] := hD
  cases hf
  exact W.vret hx hb hr (fun t ht hW => ⟨⟨(), rfl, trivial, by rw [ht]; exact hP, hD⟩, hS.F ht⟩) hS.2.2 dX1_become_38
/-! SumForms$Form.behindOctet(JI)J -/
abbrev rX1_behindOctet : Room := { frames := 1, cells := 0, slots := 0, locals := 26 }
theorem mX1_behindOctet_0 : Cond.fieldLink RX1 39 "SumForms$Form" "in" "Z" ∈ wsX1_behindOctet := by decide +kernel
theorem mX1_behindOctet_1 : Cond.fieldLink RX1 25 "SumForms$Form" "width" "I" ∈ wsX1_behindOctet := by decide +kernel
theorem mX1_behindOctet_2 : Cond.fieldLink RX1 29 "SumForms$Form" "generator" "J" ∈ wsX1_behindOctet := by decide +kernel
theorem mX1_behindOctet_3 : Cond.initialized RX2 ∈ wsX1_behindOctet := by decide +kernel
theorem mX1_behindOctet_4 : Cond.static yX2_timesX ∈ wsX1_behindOctet := by decide +kernel
theorem inX1_behindOctet_X1 : ∀ w ∈ u_ws RX1 TX1 8, w ∈ wsX1_behindOctet := by decide +kernel
abbrev GX1_behindOctet (p : Program) (l : Launch) (e : Env) (s : State) (m : MethodId) (args : Array Value) (below : List Frame) (meth : Method) (c : Code) (r0 : Int64) (fr : JFrame) : Prop := W p l e (headSpec wsX1_behindOctet rX1_behindOctet).room s m args below meth c s.heap [] 0 0 (MQ below (vp_Sl (fun r => r = r0)) args s 0 0 (fun _ => False)) fr
def fX1_behindOctet_B6 (N : Nat) (rw : Int32) (rg : Int64) (ri : Int32) (x3 : Int32) (self : Int64 → Int32 → Option (Int64)) (k : Int64 → Option (Int64)) (x4 : Int64) (x6 : Int32) : Option (Int64) := (if (8 : Int32) ≤ x6 then (k x4) else (if ri = 0 then ((fX2_timesX N (x4 ^^^ (lShl (((iShr x3 ((7 : Int32) - x6)) &&& (1 : Int32)).toInt64) (rw - (1 : Int32)))) rg rw).bind (fun r_3 => (self r_3 (x6 + (1 : Int32))))) else ((fX2_timesX N (x4 ^^^ (lShl (((iShr x3 x6) &&& (1 : Int32)).toInt64) (rw - (1 : Int32)))) rg rw).bind (fun r_5 => (self r_5 (x6 + (1 : Int32)))))))
def fX1_behindOctet_L6 (N : Nat) (rw : Int32) (rg : Int64) (ri : Int32) (x3 : Int32) (k : Int64 → Option (Int64)) : Nat → Int64 → Int32 → Option (Int64)
  | 0 => fun _ _ => none
  | n + 1 => fun x4 x6 => fX1_behindOctet_B6 N rw rg ri x3 (fX1_behindOctet_L6 N rw rg ri x3 k n) k x4 x6
def fX1_behindOctet (N : Nat) (rw : Int32) (rg : Int64) (ri : Int32) (x1 : Int64) (x3 : Int32) : Option (Int64) := (fX1_behindOctet_L6 N rw rg ri x3 (fun x4_7 => (some x4_7)) N x1 (0 : Int32))
set_option maxHeartbeats 4000000 in
set_option maxRecDepth 100000 in
theorem wX1_behindOctet_B6 {p : Program} {l : Launch} {e : Env} {s : State} {m : MethodId} {args : Array Value} {below : List Frame} {meth : Method} {c : Code} {D : va_G} {cy : Nat → ClassId} {hfo hfa hun : Nat} {rs : Int64} {re : Int64} {ro : Int32} {r0 : Int64} (E0 : En p m c cX1_behindOctet 9 s args wsX1_behindOctet RX1 meth (some .long) D cy) (N : Nat) (rw : Int32) (rg : Int64) (ri : Int32) (x3 : Int32) (hP : va_P D vwCl [(hfo, .inr (1, [.int rw, .long rg, .long rs, .long re, .int ri, .int ro, .ref hfa, .ref hun]))] s.heap) (self : Int64 → Int32 → Option (Int64)) (hself : ∀ (x4 : Int64) (x6 : Int32) (ls : Array Slot), lv_has ls 9 [(0, .ref hfo), (3, .int x3), (4, .long x4), (6, .int x6)] → self x4 x6 = some r0 → GX1_behindOctet p l e s m args below meth c r0 (F0 m 6 ls [])) (k : Int64 → Option (Int64)) (hk : ∀ (x4 : Int64) (ls : Array Slot), lv_has ls 9 [(4, .long x4)] → k x4 = some r0 → GX1_behindOctet p l e s m args below meth c r0 (F0 m 68 ls [])) : ∀ (x4 : Int64) (x6 : Int32) (ls : Array Slot), lv_has ls 9 [(0, .ref hfo), (3, .int x3), (4, .long x4), (6, .int x6)] → fX1_behindOctet_B6 N rw rg ri x3 self k x4 x6 = some r0 → GX1_behindOctet p l e s m args below meth c r0 (F0 m 6 ls []) := by
  obtain ⟨⟨hx, hb, hml, hown, hts⟩, hr, hlocks, hB⟩ := id E0
  have hK := hB.1
  have hN := hB.2
  intro x4 x6 ls hl hf
  unfold fX1_behindOctet_B6 at hf
  refine lv_iload hx hb dX1_behindOctet_6 (lv_at hl 3 rfl) ?_
  refine lv_bipush (v := (8 : Int32)) hx hb dX1_behindOctet_8 (by decide) ?_
  refine lv_icmp_ge (tgt := 68) hx hb dX1_behindOctet_10 (by decide) (fun c_1 => ?_) (fun c_1 => ?_)
  · have hf := ite_t hf c_1
    exact hk _ _ (lv_sub hl [2] rfl) hf
  · have hf := ite_f hf c_1
    refine lv_iload_n hx hb dX1_behindOctet_13 rfl (lv_at hl 1 rfl) ?_
    refine lv_aload_n hx hb dX1_behindOctet_14 rfl (lv_at hl 0 rfl) ?_
    refine va_get (D := D) (ci := 1) (v := .int ri) (C := RX1) (T := TX1) (N := 8) hx hb hts inX1_behindOctet_X1 hown hK hP 0 rfl rfl 4 (by decide) (hts _ mX1_behindOctet_0) (fun _ h9 => h9) rfl dX1_behindOctet_15 ?_
    refine lv_if_eq (tgt := 26) hx hb dX1_behindOctet_18 (by decide) (fun c_2 => ?_) (fun c_2 => ?_)
    · have hf := ite_t hf c_2
      refine lv_bipush (v := (7 : Int32)) hx hb dX1_behindOctet_26 (by decide) ?_
      refine lv_iload hx hb dX1_behindOctet_28 (lv_at hl 3 rfl) ?_
      refine lv_isub hx hb dX1_behindOctet_30 ?_
      refine zz_ishr hx hb dX1_behindOctet_31 ?_
      refine lv_iconst (v := (1 : Int32)) hx hb dX1_behindOctet_32 (by decide) ?_
      refine lv_iand hx hb dX1_behindOctet_33 ?_
      refine lv_i2l (v := ((iShr x3 ((7 : Int32) - x6)) &&& (1 : Int32)).toInt64) hx hb dX1_behindOctet_34 rfl ?_
      refine lv_lstore (lv' := [(7, .long (((iShr x3 ((7 : Int32) - x6)) &&& (1 : Int32)).toInt64)), (0, .ref hfo), (3, .int x3), (4, .long x4), (6, .int x6)]) hx hb dX1_behindOctet_35 hl (by decide) rfl (fun ls hl => ?_)
      refine lv_lload hx hb dX1_behindOctet_37 (lv_at hl 3 rfl) ?_
      refine lv_lload hx hb dX1_behindOctet_39 (lv_at hl 0 rfl) ?_
      refine lv_aload_n hx hb dX1_behindOctet_41 rfl (lv_at hl 1 rfl) ?_
      refine va_get (D := D) (ci := 1) (v := .int rw) (C := RX1) (T := TX1) (N := 8) hx hb hts inX1_behindOctet_X1 hown hK hP 0 rfl rfl 0 (by decide) (hts _ mX1_behindOctet_1) (fun _ h9 => h9) rfl dX1_behindOctet_42 ?_
      refine lv_iconst (v := (1 : Int32)) hx hb dX1_behindOctet_45 (by decide) ?_
      refine lv_isub hx hb dX1_behindOctet_46 ?_
      refine zz_lshl hx hb dX1_behindOctet_47 ?_
      refine lv_lxor hx hb dX1_behindOctet_48 ?_
      refine lv_aload_n hx hb dX1_behindOctet_49 rfl (lv_at hl 1 rfl) ?_
      refine va_get (D := D) (ci := 1) (v := .long rg) (C := RX1) (T := TX1) (N := 8) hx hb hts inX1_behindOctet_X1 hown hK hP 0 rfl rfl 1 (by decide) (hts _ mX1_behindOctet_2) (fun _ h9 => h9) rfl dX1_behindOctet_50 ?_
      refine lv_aload_n hx hb dX1_behindOctet_53 rfl (lv_at hl 1 rfl) ?_
      refine va_get (D := D) (ci := 1) (v := .int rw) (C := RX1) (T := TX1) (N := 8) hx hb hts inX1_behindOctet_X1 hown hK hP 0 rfl rfl 0 (by decide) (hts _ mX1_behindOctet_1) (fun _ h9 => h9) rfl dX1_behindOctet_54 ?_
      obtain ⟨r_3, h_4, hf⟩ := bind_some hf
      have hP_r_3 : va_P D vwCl [] s.heap := hP.sub [] rfl
      refine cz_l (va_runSN (As := [.long (x4 ^^^ (lShl (((iShr x3 ((7 : Int32) - x6)) &&& (1 : Int32)).toInt64) (rw - (1 : Int32)))), .long rg, .int rw]) (rest := []) ⟨hx, hb, hml, hown, hts⟩ (ctX2_timesX l D cy N   (x4 ^^^ (lShl (((iShr x3 ((7 : Int32) - x6)) &&& (1 : Int32)).toInt64) (rw - (1 : Int32)))) rg rw r_3 h_4) ⟨va_cnB 3 hts gX1_behindOctet_X2_timesX_n50 rfl rfl rfl (nwX1_50 hN) (hts _ mX1_behindOctet_3) (by decide +kernel) ⟨Nat.le_of_ble_eq_true rfl, Nat.le_of_ble_eq_true rfl⟩, hts _ mX1_behindOctet_4, trivial⟩ (preS_rd [.long (x4 ^^^ (lShl (((iShr x3 ((7 : Int32) - x6)) &&& (1 : Int32)).toInt64) (rw - (1 : Int32)))), .long rg, .int rw] hP_r_3 hB) rfl rfl hl.1 rfl (lv_room (Nat.le_of_ble_eq_true rfl)) dX1_behindOctet_57 ⟨Nat.zero_le _, Nat.zero_le _⟩) ?_
      refine lv_lstore (lv' := [(4, .long r_3), (7, .long (((iShr x3 ((7 : Int32) - x6)) &&& (1 : Int32)).toInt64)), (0, .ref hfo), (3, .int x3), (6, .int x6)]) hx hb dX1_behindOctet_60 hl (by decide) rfl (fun ls hl => ?_)
      refine lv_iinc (v := (x6 + (1 : Int32))) (lv' := [(6, .int (x6 + (1 : Int32))), (4, .long r_3), (7, .long (((iShr x3 ((7 : Int32) - x6)) &&& (1 : Int32)).toInt64)), (0, .ref hfo), (3, .int x3)]) hx hb dX1_behindOctet_62 hl (k := 4) rfl rfl (by decide) rfl (fun ls hl => ?_)
      refine lv_goto (tgt := 6) hx hb dX1_behindOctet_65 (by decide) ?_
      exact hself _ _ _ (lv_sub hl [3, 4, 1, 0] rfl) hf
    · have hf := ite_f hf c_2
      refine lv_iload hx hb dX1_behindOctet_21 (lv_at hl 3 rfl) ?_
      refine lv_goto (tgt := 31) hx hb dX1_behindOctet_23 (by decide) ?_
      refine zz_ishr hx hb dX1_behindOctet_31 ?_
      refine lv_iconst (v := (1 : Int32)) hx hb dX1_behindOctet_32 (by decide) ?_
      refine lv_iand hx hb dX1_behindOctet_33 ?_
      refine lv_i2l (v := ((iShr x3 x6) &&& (1 : Int32)).toInt64) hx hb dX1_behindOctet_34 rfl ?_
      refine lv_lstore (lv' := [(7, .long (((iShr x3 x6) &&& (1 : Int32)).toInt64)), (0, .ref hfo), (3, .int x3), (4, .long x4), (6, .int x6)]) hx hb dX1_behindOctet_35 hl (by decide) rfl (fun ls hl => ?_)
      refine lv_lload hx hb dX1_behindOctet_37 (lv_at hl 3 rfl) ?_
      refine lv_lload hx hb dX1_behindOctet_39 (lv_at hl 0 rfl) ?_
      refine lv_aload_n hx hb dX1_behindOctet_41 rfl (lv_at hl 1 rfl) ?_
      refine va_get (D := D) (ci := 1) (v := .int rw) (C := RX1) (T := TX1) (N := 8) hx hb hts inX1_behindOctet_X1 hown hK hP 0 rfl rfl 0 (by decide) (hts _ mX1_behindOctet_1) (fun _ h9 => h9) rfl dX1_behindOctet_42 ?_
      refine lv_iconst (v := (1 : Int32)) hx hb dX1_behindOctet_45 (by decide) ?_
      refine lv_isub hx hb dX1_behindOctet_46 ?_
      refine zz_lshl hx hb dX1_behindOctet_47 ?_
      refine lv_lxor hx hb dX1_behindOctet_48 ?_
      refine lv_aload_n hx hb dX1_behindOctet_49 rfl (lv_at hl 1 rfl) ?_
      refine va_get (D := D) (ci := 1) (v := .long rg) (C := RX1) (T := TX1) (N := 8) hx hb hts inX1_behindOctet_X1 hown hK hP 0 rfl rfl 1 (by decide) (hts _ mX1_behindOctet_2) (fun _ h9 => h9) rfl dX1_behindOctet_50 ?_
      refine lv_aload_n hx hb dX1_behindOctet_53 rfl (lv_at hl 1 rfl) ?_
      refine va_get (D := D) (ci := 1) (v := .int rw) (C := RX1) (T := TX1) (N := 8) hx hb hts inX1_behindOctet_X1 hown hK hP 0 rfl rfl 0 (by decide) (hts _ mX1_behindOctet_1) (fun _ h9 => h9) rfl dX1_behindOctet_54 ?_
      obtain ⟨r_5, h_6, hf⟩ := bind_some hf
      have hP_r_5 : va_P D vwCl [] s.heap := hP.sub [] rfl
      refine cz_l (va_runSN (As := [.long (x4 ^^^ (lShl (((iShr x3 x6) &&& (1 : Int32)).toInt64) (rw - (1 : Int32)))), .long rg, .int rw]) (rest := []) ⟨hx, hb, hml, hown, hts⟩ (ctX2_timesX l D cy N   (x4 ^^^ (lShl (((iShr x3 x6) &&& (1 : Int32)).toInt64) (rw - (1 : Int32)))) rg rw r_5 h_6) ⟨va_cnB 3 hts gX1_behindOctet_X2_timesX_n50 rfl rfl rfl (nwX1_50 hN) (hts _ mX1_behindOctet_3) (by decide +kernel) ⟨Nat.le_of_ble_eq_true rfl, Nat.le_of_ble_eq_true rfl⟩, hts _ mX1_behindOctet_4, trivial⟩ (preS_rd [.long (x4 ^^^ (lShl (((iShr x3 x6) &&& (1 : Int32)).toInt64) (rw - (1 : Int32)))), .long rg, .int rw] hP_r_5 hB) rfl rfl hl.1 rfl (lv_room (Nat.le_of_ble_eq_true rfl)) dX1_behindOctet_57 ⟨Nat.zero_le _, Nat.zero_le _⟩) ?_
      refine lv_lstore (lv' := [(4, .long r_5), (7, .long (((iShr x3 x6) &&& (1 : Int32)).toInt64)), (0, .ref hfo), (3, .int x3), (6, .int x6)]) hx hb dX1_behindOctet_60 hl (by decide) rfl (fun ls hl => ?_)
      refine lv_iinc (v := (x6 + (1 : Int32))) (lv' := [(6, .int (x6 + (1 : Int32))), (4, .long r_5), (7, .long (((iShr x3 x6) &&& (1 : Int32)).toInt64)), (0, .ref hfo), (3, .int x3)]) hx hb dX1_behindOctet_62 hl (k := 4) rfl rfl (by decide) rfl (fun ls hl => ?_)
      refine lv_goto (tgt := 6) hx hb dX1_behindOctet_65 (by decide) ?_
      exact hself _ _ _ (lv_sub hl [3, 4, 1, 0] rfl) hf
theorem wX1_behindOctet_L6 {p : Program} {l : Launch} {e : Env} {s : State} {m : MethodId} {args : Array Value} {below : List Frame} {meth : Method} {c : Code} {D : va_G} {cy : Nat → ClassId} {hfo hfa hun : Nat} {rs : Int64} {re : Int64} {ro : Int32} {r0 : Int64} (E0 : En p m c cX1_behindOctet 9 s args wsX1_behindOctet RX1 meth (some .long) D cy) (N : Nat) (rw : Int32) (rg : Int64) (ri : Int32) (x3 : Int32) (hP : va_P D vwCl [(hfo, .inr (1, [.int rw, .long rg, .long rs, .long re, .int ri, .int ro, .ref hfa, .ref hun]))] s.heap) (k : Int64 → Option (Int64)) (hk : ∀ (x4 : Int64) (ls : Array Slot), lv_has ls 9 [(4, .long x4)] → k x4 = some r0 → GX1_behindOctet p l e s m args below meth c r0 (F0 m 68 ls [])) : ∀ (n : Nat), ∀ (x4 : Int64) (x6 : Int32) (ls : Array Slot), lv_has ls 9 [(0, .ref hfo), (3, .int x3), (4, .long x4), (6, .int x6)] → fX1_behindOctet_L6 N rw rg ri x3 k n x4 x6 = some r0 → GX1_behindOctet p l e s m args below meth c r0 (F0 m 6 ls []) := by
  intro n
  induction n with
  | zero => intro x4 x6 ls hl hf; cases hf
  | succ n ih => exact wX1_behindOctet_B6 E0 N rw rg ri x3 hP _ ih k hk
set_option maxHeartbeats 4000000 in
set_option maxRecDepth 100000 in
theorem ctX1_behindOctet (l : Launch) (D : va_G) (cy : Nat → ClassId) (N : Nat) (hfo hfa hun : Nat) (rw : Int32) (rg : Int64) (rs : Int64) (re : Int64) (ri : Int32) (ro : Int32) (x1 : Int64) (x3 : Int32) (r0 : Int64) (hf : fX1_behindOctet N rw rg ri x1 x3 = some r0) : Met l yX1_behindOctet wsX1_behindOctet rX1_behindOctet (va_Pc [.ref hfo, .long x1, .int x3] (Rd D cy [(hfo, .inr (1, [.int rw, .long rg, .long rs, .long re, .int ri, .int ro, .ref hfa, .ref hun]))])) (vp_Sl (fun r => r = r0)) 0 0 (fun _ => False) := by
  refine Met.ofW (cc := cX1_behindOctet) (maxL := 9) (ret := (some .long)) (by decide) rfl ?_
  intro p e s m args below meth c s₁ B hml hv
  obtain ⟨rfl, hP, hB⟩ := hv
  have hx := B.exec
  have hb := B.bytes
  have hr := B.returns
  have hts := atoms_spec (ws := wsX1_behindOctet) B.pre
  have hown : s.vm.findClass RX1 = some m.cls := findClass_of_methodNamed B.named
  have hlocks := B.notSynchronized
  have hK := hB.1
  have hN := hB.2
  have hl := lv_entry ([.ref hfo, .long x1, .int x3]) (n := 9) (Nat.le_of_ble_eq_true rfl)
  rw [lg_entry_eq]
  generalize (lg_sl ([.ref hfo, .long x1, .int x3]) ++ List.replicate (9 - (lg_sl ([.ref hfo, .long x1, .int x3])).length) Slot.unset).toArray = ls at hl ⊢
  have hl : lv_has ls 9 [(0, .ref hfo), (1, .long x1), (3, .int x3)] := hl
  have E0 : En p m c cX1_behindOctet 9 s ([.ref hfo, .long x1, .int x3] : List Value).toArray wsX1_behindOctet RX1 meth (some .long) D cy := ⟨⟨hx, hb, hml, hown, hts⟩, hr, hlocks, hB⟩
  unfold fX1_behindOctet at hf
  refine lv_lload_n hx hb dX1_behindOctet_0 rfl (lv_at hl 1 rfl) ?_
  refine lv_lstore (lv' := [(4, .long x1), (0, .ref hfo), (1, .long x1), (3, .int x3)]) hx hb dX1_behindOctet_1 hl (by decide) rfl (fun ls hl => ?_)
  refine lv_iconst (v := (0 : Int32)) hx hb dX1_behindOctet_3 (by decide) ?_
  refine lv_istore (lv' := [(6, .int (0 : Int32)), (4, .long x1), (0, .ref hfo), (1, .long x1), (3, .int x3)]) hx hb dX1_behindOctet_4 hl (by decide) rfl (fun ls hl => ?_)
  refine wX1_behindOctet_L6 E0 N rw rg ri x3 hP _ (fun x4_7 ls hl hf => ?_) N _ _ _ (lv_sub hl [2, 4, 1, 0] rfl) hf
  refine lv_lload hx hb dX1_behindOctet_68 (lv_at hl 0 rfl) ?_
  exact W.lret (v := x4_7) hx hb hr (fun t ht hW => ⟨_, rfl, Option.some.inj hf, ht⟩) (fun _ h => absurd h List.not_mem_nil) dX1_behindOctet_70
/-! SumForms$Form.movedByOctets(JJ)J -/
abbrev rX1_movedByOctets : Room := { frames := 2, cells := 0, slots := 0, locals := 55 }
theorem mX1_movedByOctets_0 : Cond.fieldLink RX1 29 "SumForms$Form" "generator" "J" ∈ wsX1_movedByOctets := by decide +kernel
theorem mX1_movedByOctets_1 : Cond.fieldLink RX1 25 "SumForms$Form" "width" "I" ∈ wsX1_movedByOctets := by decide +kernel
theorem mX1_movedByOctets_2 : Cond.initialized RX2 ∈ wsX1_movedByOctets := by decide +kernel
theorem mX1_movedByOctets_3 : Cond.static yX2_timesX ∈ wsX1_movedByOctets := by decide +kernel
theorem mX1_movedByOctets_4 : Cond.static yX2_product ∈ wsX1_movedByOctets := by decide +kernel
theorem inX1_movedByOctets_X1 : ∀ w ∈ u_ws RX1 TX1 8, w ∈ wsX1_movedByOctets := by decide +kernel
abbrev GX1_movedByOctets (p : Program) (l : Launch) (e : Env) (s : State) (m : MethodId) (args : Array Value) (below : List Frame) (meth : Method) (c : Code) (r0 : Int64) (fr : JFrame) : Prop := W p l e (headSpec wsX1_movedByOctets rX1_movedByOctets).room s m args below meth c s.heap [] 0 0 (MQ below (vp_Sl (fun r => r = r0)) args s 0 0 (fun _ => False)) fr
def fX1_movedByOctets_B6 (N : Nat) (rw : Int32) (rg : Int64) (x1 : Int64) (x3 : Int64) (self : Int64 → Int32 → Option (Int64)) (k : Int64 → Option (Int64)) (x5 : Int64) (x7 : Int32) : Option (Int64) := (if (8 : Int32) ≤ x7 then (k x5) else ((fX2_timesX N x5 rg rw).bind (fun r_2 => (self r_2 (x7 + (1 : Int32))))))
def fX1_movedByOctets_L6 (N : Nat) (rw : Int32) (rg : Int64) (x1 : Int64) (x3 : Int64) (k : Int64 → Option (Int64)) : Nat → Int64 → Int32 → Option (Int64)
  | 0 => fun _ _ => none
  | n + 1 => fun x5 x7 => fX1_movedByOctets_B6 N rw rg x1 x3 (fX1_movedByOctets_L6 N rw rg x1 x3 k n) k x5 x7
def fX1_movedByOctets_B40 (N : Nat) (rw : Int32) (rg : Int64) (x3 : Int64) (self : Int64 → Int64 → Int32 → Option (Int64)) (k : Int64 → Option (Int64)) (x5 : Int64) (x7 : Int64) (x9 : Int32) : Option (Int64) := (if (61 : Int32) ≤ x9 then (k x7) else (if (lUsh x3 x9) = (0 : Int64) then (k x7) else (if ((lUsh x3 x9) &&& (1 : Int64)) = (0 : Int64) then ((fX2_product N x5 x5 rg).bind (fun r_8 => (self r_8 x7 (x9 + (1 : Int32))))) else ((fX2_product N x7 x5 rg).bind (fun r_10 => ((fX2_product N x5 x5 rg).bind (fun r_12 => (self r_12 r_10 (x9 + (1 : Int32))))))))))
def fX1_movedByOctets_L40 (N : Nat) (rw : Int32) (rg : Int64) (x3 : Int64) (k : Int64 → Option (Int64)) : Nat → Int64 → Int64 → Int32 → Option (Int64)
  | 0 => fun _ _ _ => none
  | n + 1 => fun x5 x7 x9 => fX1_movedByOctets_B40 N rw rg x3 (fX1_movedByOctets_L40 N rw rg x3 k n) k x5 x7 x9
def fX1_movedByOctets (N : Nat) (rw : Int32) (rg : Int64) (x1 : Int64) (x3 : Int64) : Option (Int64) := (fX1_movedByOctets_L6 N rw rg x1 x3 (fun x5_4 => (fX1_movedByOctets_L40 N rw rg x3 (fun x7_14 => (some x7_14)) N x5_4 x1 (0 : Int32))) N (1 : Int64) (0 : Int32))
set_option maxHeartbeats 4000000 in
set_option maxRecDepth 100000 in
theorem wX1_movedByOctets_B6 {p : Program} {l : Launch} {e : Env} {s : State} {m : MethodId} {args : Array Value} {below : List Frame} {meth : Method} {c : Code} {D : va_G} {cy : Nat → ClassId} {hfo hfa hun : Nat} {rs : Int64} {re : Int64} {ri : Int32} {ro : Int32} {r0 : Int64} (E0 : En p m c cX1_movedByOctets 10 s args wsX1_movedByOctets RX1 meth (some .long) D cy) (N : Nat) (rw : Int32) (rg : Int64) (x1 : Int64) (x3 : Int64) (hP : va_P D vwCl [(hfo, .inr (1, [.int rw, .long rg, .long rs, .long re, .int ri, .int ro, .ref hfa, .ref hun]))] s.heap) (self : Int64 → Int32 → Option (Int64)) (hself : ∀ (x5 : Int64) (x7 : Int32) (ls : Array Slot), lv_has ls 10 [(0, .ref hfo), (1, .long x1), (3, .long x3), (5, .long x5), (7, .int x7)] → self x5 x7 = some r0 → GX1_movedByOctets p l e s m args below meth c r0 (F0 m 6 ls [])) (k : Int64 → Option (Int64)) (hk : ∀ (x5 : Int64) (ls : Array Slot), lv_has ls 10 [(0, .ref hfo), (1, .long x1), (3, .long x3), (5, .long x5)] → k x5 = some r0 → GX1_movedByOctets p l e s m args below meth c r0 (F0 m 34 ls [])) : ∀ (x5 : Int64) (x7 : Int32) (ls : Array Slot), lv_has ls 10 [(0, .ref hfo), (1, .long x1), (3, .long x3), (5, .long x5), (7, .int x7)] → fX1_movedByOctets_B6 N rw rg x1 x3 self k x5 x7 = some r0 → GX1_movedByOctets p l e s m args below meth c r0 (F0 m 6 ls []) := by
  obtain ⟨⟨hx, hb, hml, hown, hts⟩, hr, hlocks, hB⟩ := id E0
  have hK := hB.1
  have hN := hB.2
  intro x5 x7 ls hl hf
  unfold fX1_movedByOctets_B6 at hf
  refine lv_iload hx hb dX1_movedByOctets_6 (lv_at hl 4 rfl) ?_
  refine lv_bipush (v := (8 : Int32)) hx hb dX1_movedByOctets_8 (by decide) ?_
  refine lv_icmp_ge (tgt := 34) hx hb dX1_movedByOctets_10 (by decide) (fun c_1 => ?_) (fun c_1 => ?_)
  · have hf := ite_t hf c_1
    exact hk _ _ (lv_sub hl [0, 1, 2, 3] rfl) hf
  · have hf := ite_f hf c_1
    refine lv_lload hx hb dX1_movedByOctets_13 (lv_at hl 3 rfl) ?_
    refine lv_aload_n hx hb dX1_movedByOctets_15 rfl (lv_at hl 0 rfl) ?_
    refine va_get (D := D) (ci := 1) (v := .long rg) (C := RX1) (T := TX1) (N := 8) hx hb hts inX1_movedByOctets_X1 hown hK hP 0 rfl rfl 1 (by decide) (hts _ mX1_movedByOctets_0) (fun _ h9 => h9) rfl dX1_movedByOctets_16 ?_
    refine lv_aload_n hx hb dX1_movedByOctets_19 rfl (lv_at hl 0 rfl) ?_
    refine va_get (D := D) (ci := 1) (v := .int rw) (C := RX1) (T := TX1) (N := 8) hx hb hts inX1_movedByOctets_X1 hown hK hP 0 rfl rfl 0 (by decide) (hts _ mX1_movedByOctets_1) (fun _ h9 => h9) rfl dX1_movedByOctets_20 ?_
    obtain ⟨r_2, h_3, hf⟩ := bind_some hf
    have hP_r_2 : va_P D vwCl [] s.heap := hP.sub [] rfl
    refine cz_l (va_runSN (As := [.long x5, .long rg, .int rw]) (rest := []) ⟨hx, hb, hml, hown, hts⟩ (ctX2_timesX l D cy N   x5 rg rw r_2 h_3) ⟨va_cnB 3 hts gX1_movedByOctets_X2_timesX_n50 rfl rfl rfl (nwX1_50 hN) (hts _ mX1_movedByOctets_2) (by decide +kernel) ⟨Nat.le_of_ble_eq_true rfl, Nat.le_of_ble_eq_true rfl⟩, hts _ mX1_movedByOctets_3, trivial⟩ (preS_rd [.long x5, .long rg, .int rw] hP_r_2 hB) rfl rfl hl.1 rfl (lv_room (Nat.le_of_ble_eq_true rfl)) dX1_movedByOctets_23 ⟨Nat.zero_le _, Nat.zero_le _⟩) ?_
    refine lv_lstore (lv' := [(5, .long r_2), (0, .ref hfo), (1, .long x1), (3, .long x3), (7, .int x7)]) hx hb dX1_movedByOctets_26 hl (by decide) rfl (fun ls hl => ?_)
    refine lv_iinc (v := (x7 + (1 : Int32))) (lv' := [(7, .int (x7 + (1 : Int32))), (5, .long r_2), (0, .ref hfo), (1, .long x1), (3, .long x3)]) hx hb dX1_movedByOctets_28 hl (k := 4) rfl rfl (by decide) rfl (fun ls hl => ?_)
    refine lv_goto (tgt := 6) hx hb dX1_movedByOctets_31 (by decide) ?_
    exact hself _ _ _ (lv_sub hl [2, 3, 4, 1, 0] rfl) hf
theorem wX1_movedByOctets_L6 {p : Program} {l : Launch} {e : Env} {s : State} {m : MethodId} {args : Array Value} {below : List Frame} {meth : Method} {c : Code} {D : va_G} {cy : Nat → ClassId} {hfo hfa hun : Nat} {rs : Int64} {re : Int64} {ri : Int32} {ro : Int32} {r0 : Int64} (E0 : En p m c cX1_movedByOctets 10 s args wsX1_movedByOctets RX1 meth (some .long) D cy) (N : Nat) (rw : Int32) (rg : Int64) (x1 : Int64) (x3 : Int64) (hP : va_P D vwCl [(hfo, .inr (1, [.int rw, .long rg, .long rs, .long re, .int ri, .int ro, .ref hfa, .ref hun]))] s.heap) (k : Int64 → Option (Int64)) (hk : ∀ (x5 : Int64) (ls : Array Slot), lv_has ls 10 [(0, .ref hfo), (1, .long x1), (3, .long x3), (5, .long x5)] → k x5 = some r0 → GX1_movedByOctets p l e s m args below meth c r0 (F0 m 34 ls [])) : ∀ (n : Nat), ∀ (x5 : Int64) (x7 : Int32) (ls : Array Slot), lv_has ls 10 [(0, .ref hfo), (1, .long x1), (3, .long x3), (5, .long x5), (7, .int x7)] → fX1_movedByOctets_L6 N rw rg x1 x3 k n x5 x7 = some r0 → GX1_movedByOctets p l e s m args below meth c r0 (F0 m 6 ls []) := by
  intro n
  induction n with
  | zero => intro x5 x7 ls hl hf; cases hf
  | succ n ih => exact wX1_movedByOctets_B6 E0 N rw rg x1 x3 hP _ ih k hk
set_option maxHeartbeats 4000000 in
set_option maxRecDepth 100000 in
theorem wX1_movedByOctets_B40 {p : Program} {l : Launch} {e : Env} {s : State} {m : MethodId} {args : Array Value} {below : List Frame} {meth : Method} {c : Code} {D : va_G} {cy : Nat → ClassId} {hfo hfa hun : Nat} {rs : Int64} {re : Int64} {ri : Int32} {ro : Int32} {r0 : Int64} (E0 : En p m c cX1_movedByOctets 10 s args wsX1_movedByOctets RX1 meth (some .long) D cy) (N : Nat) (rw : Int32) (rg : Int64) (x3 : Int64) (hP : va_P D vwCl [(hfo, .inr (1, [.int rw, .long rg, .long rs, .long re, .int ri, .int ro, .ref hfa, .ref hun]))] s.heap) (self : Int64 → Int64 → Int32 → Option (Int64)) (hself : ∀ (x5 : Int64) (x7 : Int64) (x9 : Int32) (ls : Array Slot), lv_has ls 10 [(0, .ref hfo), (3, .long x3), (5, .long x5), (7, .long x7), (9, .int x9)] → self x5 x7 x9 = some r0 → GX1_movedByOctets p l e s m args below meth c r0 (F0 m 40 ls [])) (k : Int64 → Option (Int64)) (hk : ∀ (x7 : Int64) (ls : Array Slot), lv_has ls 10 [(7, .long x7)] → k x7 = some r0 → GX1_movedByOctets p l e s m args below meth c r0 (F0 m 99 ls [])) : ∀ (x5 : Int64) (x7 : Int64) (x9 : Int32) (ls : Array Slot), lv_has ls 10 [(0, .ref hfo), (3, .long x3), (5, .long x5), (7, .long x7), (9, .int x9)] → fX1_movedByOctets_B40 N rw rg x3 self k x5 x7 x9 = some r0 → GX1_movedByOctets p l e s m args below meth c r0 (F0 m 40 ls []) := by
  obtain ⟨⟨hx, hb, hml, hown, hts⟩, hr, hlocks, hB⟩ := id E0
  have hK := hB.1
  have hN := hB.2
  intro x5 x7 x9 ls hl hf
  unfold fX1_movedByOctets_B40 at hf
  refine lv_iload hx hb dX1_movedByOctets_40 (lv_at hl 4 rfl) ?_
  refine lv_bipush (v := (61 : Int32)) hx hb dX1_movedByOctets_42 (by decide) ?_
  refine lv_icmp_ge (tgt := 99) hx hb dX1_movedByOctets_44 (by decide) (fun c_5 => ?_) (fun c_5 => ?_)
  · have hf := ite_t hf c_5
    exact hk _ _ (lv_sub hl [3] rfl) hf
  · have hf := ite_f hf c_5
    refine lv_lload_n hx hb dX1_movedByOctets_47 rfl (lv_at hl 1 rfl) ?_
    refine lv_iload hx hb dX1_movedByOctets_48 (lv_at hl 4 rfl) ?_
    refine zz_lushr hx hb dX1_movedByOctets_50 ?_
    refine lv_lconst (v := (0 : Int64)) hx hb dX1_movedByOctets_51 (by decide) ?_
    refine zz_lc_eq (tgt := 99) hx hb dX1_movedByOctets_52 dX1_movedByOctets_53 (by decide) (fun c_6 => ?_) (fun c_6 => ?_)
    · have hf := ite_t hf c_6
      exact hk _ _ (lv_sub hl [3] rfl) hf
    · have hf := ite_f hf c_6
      refine lv_lload_n hx hb dX1_movedByOctets_56 rfl (lv_at hl 1 rfl) ?_
      refine lv_iload hx hb dX1_movedByOctets_57 (lv_at hl 4 rfl) ?_
      refine zz_lushr hx hb dX1_movedByOctets_59 ?_
      refine lv_lconst (v := (1 : Int64)) hx hb dX1_movedByOctets_60 (by decide) ?_
      refine lv_land hx hb dX1_movedByOctets_61 ?_
      refine lv_lconst (v := (0 : Int64)) hx hb dX1_movedByOctets_62 (by decide) ?_
      refine zz_lc_eq (tgt := 80) hx hb dX1_movedByOctets_63 dX1_movedByOctets_64 (by decide) (fun c_7 => ?_) (fun c_7 => ?_)
      · have hf := ite_t hf c_7
        refine lv_lload hx hb dX1_movedByOctets_80 (lv_at hl 2 rfl) ?_
        refine lv_lload hx hb dX1_movedByOctets_82 (lv_at hl 2 rfl) ?_
        refine lv_aload_n hx hb dX1_movedByOctets_84 rfl (lv_at hl 0 rfl) ?_
        refine va_get (D := D) (ci := 1) (v := .long rg) (C := RX1) (T := TX1) (N := 8) hx hb hts inX1_movedByOctets_X1 hown hK hP 0 rfl rfl 1 (by decide) (hts _ mX1_movedByOctets_0) (fun _ h9 => h9) rfl dX1_movedByOctets_85 ?_
        obtain ⟨r_8, h_9, hf⟩ := bind_some hf
        have hP_r_8 : va_P D vwCl [] s.heap := hP.sub [] rfl
        refine cz_l (va_runSN (As := [.long x5, .long x5, .long rg]) (rest := []) ⟨hx, hb, hml, hown, hts⟩ (ctX2_product l D cy N   x5 x5 rg r_8 h_9) ⟨va_cnB 3 hts gX1_movedByOctets_X2_product_n56 rfl rfl rfl (nwX1_56 hN) (hts _ mX1_movedByOctets_2) (by decide +kernel) ⟨Nat.le_of_ble_eq_true rfl, Nat.le_of_ble_eq_true rfl⟩, hts _ mX1_movedByOctets_4, trivial⟩ (preS_rd [.long x5, .long x5, .long rg] hP_r_8 hB) rfl rfl hl.1 rfl (lv_room (Nat.le_of_ble_eq_true rfl)) dX1_movedByOctets_88 ⟨Nat.zero_le _, Nat.zero_le _⟩) ?_
        refine lv_lstore (lv' := [(5, .long r_8), (0, .ref hfo), (3, .long x3), (7, .long x7), (9, .int x9)]) hx hb dX1_movedByOctets_91 hl (by decide) rfl (fun ls hl => ?_)
        refine lv_iinc (v := (x9 + (1 : Int32))) (lv' := [(9, .int (x9 + (1 : Int32))), (5, .long r_8), (0, .ref hfo), (3, .long x3), (7, .long x7)]) hx hb dX1_movedByOctets_93 hl (k := 4) rfl rfl (by decide) rfl (fun ls hl => ?_)
        refine lv_goto (tgt := 40) hx hb dX1_movedByOctets_96 (by decide) ?_
        exact hself _ _ _ _ (lv_sub hl [2, 3, 1, 4, 0] rfl) hf
      · have hf := ite_f hf c_7
        refine lv_lload hx hb dX1_movedByOctets_67 (lv_at hl 3 rfl) ?_
        refine lv_lload hx hb dX1_movedByOctets_69 (lv_at hl 2 rfl) ?_
        refine lv_aload_n hx hb dX1_movedByOctets_71 rfl (lv_at hl 0 rfl) ?_
        refine va_get (D := D) (ci := 1) (v := .long rg) (C := RX1) (T := TX1) (N := 8) hx hb hts inX1_movedByOctets_X1 hown hK hP 0 rfl rfl 1 (by decide) (hts _ mX1_movedByOctets_0) (fun _ h9 => h9) rfl dX1_movedByOctets_72 ?_
        obtain ⟨r_10, h_11, hf⟩ := bind_some hf
        have hP_r_10 : va_P D vwCl [] s.heap := hP.sub [] rfl
        refine cz_l (va_runSN (As := [.long x7, .long x5, .long rg]) (rest := []) ⟨hx, hb, hml, hown, hts⟩ (ctX2_product l D cy N   x7 x5 rg r_10 h_11) ⟨va_cnB 3 hts gX1_movedByOctets_X2_product_n56 rfl rfl rfl (nwX1_56 hN) (hts _ mX1_movedByOctets_2) (by decide +kernel) ⟨Nat.le_of_ble_eq_true rfl, Nat.le_of_ble_eq_true rfl⟩, hts _ mX1_movedByOctets_4, trivial⟩ (preS_rd [.long x7, .long x5, .long rg] hP_r_10 hB) rfl rfl hl.1 rfl (lv_room (Nat.le_of_ble_eq_true rfl)) dX1_movedByOctets_75 ⟨Nat.zero_le _, Nat.zero_le _⟩) ?_
        refine lv_lstore (lv' := [(7, .long r_10), (0, .ref hfo), (3, .long x3), (5, .long x5), (9, .int x9)]) hx hb dX1_movedByOctets_78 hl (by decide) rfl (fun ls hl => ?_)
        refine lv_lload hx hb dX1_movedByOctets_80 (lv_at hl 3 rfl) ?_
        refine lv_lload hx hb dX1_movedByOctets_82 (lv_at hl 3 rfl) ?_
        refine lv_aload_n hx hb dX1_movedByOctets_84 rfl (lv_at hl 1 rfl) ?_
        refine va_get (D := D) (ci := 1) (v := .long rg) (C := RX1) (T := TX1) (N := 8) hx hb hts inX1_movedByOctets_X1 hown hK hP 0 rfl rfl 1 (by decide) (hts _ mX1_movedByOctets_0) (fun _ h9 => h9) rfl dX1_movedByOctets_85 ?_
        obtain ⟨r_12, h_13, hf⟩ := bind_some hf
        have hP_r_12 : va_P D vwCl [] s.heap := hP.sub [] rfl
        refine cz_l (va_runSN (As := [.long x5, .long x5, .long rg]) (rest := []) ⟨hx, hb, hml, hown, hts⟩ (ctX2_product l D cy N   x5 x5 rg r_12 h_13) ⟨va_cnB 3 hts gX1_movedByOctets_X2_product_n56 rfl rfl rfl (nwX1_56 hN) (hts _ mX1_movedByOctets_2) (by decide +kernel) ⟨Nat.le_of_ble_eq_true rfl, Nat.le_of_ble_eq_true rfl⟩, hts _ mX1_movedByOctets_4, trivial⟩ (preS_rd [.long x5, .long x5, .long rg] hP_r_12 hB) rfl rfl hl.1 rfl (lv_room (Nat.le_of_ble_eq_true rfl)) dX1_movedByOctets_88 ⟨Nat.zero_le _, Nat.zero_le _⟩) ?_
        refine lv_lstore (lv' := [(5, .long r_12), (7, .long r_10), (0, .ref hfo), (3, .long x3), (9, .int x9)]) hx hb dX1_movedByOctets_91 hl (by decide) rfl (fun ls hl => ?_)
        refine lv_iinc (v := (x9 + (1 : Int32))) (lv' := [(9, .int (x9 + (1 : Int32))), (5, .long r_12), (7, .long r_10), (0, .ref hfo), (3, .long x3)]) hx hb dX1_movedByOctets_93 hl (k := 4) rfl rfl (by decide) rfl (fun ls hl => ?_)
        refine lv_goto (tgt := 40) hx hb dX1_movedByOctets_96 (by decide) ?_
        exact hself _ _ _ _ (lv_sub hl [3, 4, 1, 2, 0] rfl) hf
theorem wX1_movedByOctets_L40 {p : Program} {l : Launch} {e : Env} {s : State} {m : MethodId} {args : Array Value} {below : List Frame} {meth : Method} {c : Code} {D : va_G} {cy : Nat → ClassId} {hfo hfa hun : Nat} {rs : Int64} {re : Int64} {ri : Int32} {ro : Int32} {r0 : Int64} (E0 : En p m c cX1_movedByOctets 10 s args wsX1_movedByOctets RX1 meth (some .long) D cy) (N : Nat) (rw : Int32) (rg : Int64) (x3 : Int64) (hP : va_P D vwCl [(hfo, .inr (1, [.int rw, .long rg, .long rs, .long re, .int ri, .int ro, .ref hfa, .ref hun]))] s.heap) (k : Int64 → Option (Int64)) (hk : ∀ (x7 : Int64) (ls : Array Slot), lv_has ls 10 [(7, .long x7)] → k x7 = some r0 → GX1_movedByOctets p l e s m args below meth c r0 (F0 m 99 ls [])) : ∀ (n : Nat), ∀ (x5 : Int64) (x7 : Int64) (x9 : Int32) (ls : Array Slot), lv_has ls 10 [(0, .ref hfo), (3, .long x3), (5, .long x5), (7, .long x7), (9, .int x9)] → fX1_movedByOctets_L40 N rw rg x3 k n x5 x7 x9 = some r0 → GX1_movedByOctets p l e s m args below meth c r0 (F0 m 40 ls []) := by
  intro n
  induction n with
  | zero => intro x5 x7 x9 ls hl hf; cases hf
  | succ n ih => exact wX1_movedByOctets_B40 E0 N rw rg x3 hP _ ih k hk
set_option maxHeartbeats 4000000 in
set_option maxRecDepth 100000 in
theorem ctX1_movedByOctets (l : Launch) (D : va_G) (cy : Nat → ClassId) (N : Nat) (hfo hfa hun : Nat) (rw : Int32) (rg : Int64) (rs : Int64) (re : Int64) (ri : Int32) (ro : Int32) (x1 : Int64) (x3 : Int64) (r0 : Int64) (hf : fX1_movedByOctets N rw rg x1 x3 = some r0) : Met l yX1_movedByOctets wsX1_movedByOctets rX1_movedByOctets (va_Pc [.ref hfo, .long x1, .long x3] (Rd D cy [(hfo, .inr (1, [.int rw, .long rg, .long rs, .long re, .int ri, .int ro, .ref hfa, .ref hun]))])) (vp_Sl (fun r => r = r0)) 0 0 (fun _ => False) := by
  refine Met.ofW (cc := cX1_movedByOctets) (maxL := 10) (ret := (some .long)) (by decide) rfl ?_
  intro p e s m args below meth c s₁ B hml hv
  obtain ⟨rfl, hP, hB⟩ := hv
  have hx := B.exec
  have hb := B.bytes
  have hr := B.returns
  have hts := atoms_spec (ws := wsX1_movedByOctets) B.pre
  have hown : s.vm.findClass RX1 = some m.cls := findClass_of_methodNamed B.named
  have hlocks := B.notSynchronized
  have hK := hB.1
  have hN := hB.2
  have hl := lv_entry ([.ref hfo, .long x1, .long x3]) (n := 10) (Nat.le_of_ble_eq_true rfl)
  rw [lg_entry_eq]
  generalize (lg_sl ([.ref hfo, .long x1, .long x3]) ++ List.replicate (10 - (lg_sl ([.ref hfo, .long x1, .long x3])).length) Slot.unset).toArray = ls at hl ⊢
  have hl : lv_has ls 10 [(0, .ref hfo), (1, .long x1), (3, .long x3)] := hl
  have E0 : En p m c cX1_movedByOctets 10 s ([.ref hfo, .long x1, .long x3] : List Value).toArray wsX1_movedByOctets RX1 meth (some .long) D cy := ⟨⟨hx, hb, hml, hown, hts⟩, hr, hlocks, hB⟩
  unfold fX1_movedByOctets at hf
  refine lv_lconst (v := (1 : Int64)) hx hb dX1_movedByOctets_0 (by decide) ?_
  refine lv_lstore (lv' := [(5, .long (1 : Int64)), (0, .ref hfo), (1, .long x1), (3, .long x3)]) hx hb dX1_movedByOctets_1 hl (by decide) rfl (fun ls hl => ?_)
  refine lv_iconst (v := (0 : Int32)) hx hb dX1_movedByOctets_3 (by decide) ?_
  refine lv_istore (lv' := [(7, .int (0 : Int32)), (5, .long (1 : Int64)), (0, .ref hfo), (1, .long x1), (3, .long x3)]) hx hb dX1_movedByOctets_4 hl (by decide) rfl (fun ls hl => ?_)
  refine wX1_movedByOctets_L6 E0 N rw rg x1 x3 hP _ (fun x5_4 ls hl hf => ?_) N _ _ _ (lv_sub hl [2, 3, 4, 1, 0] rfl) hf
  refine lv_lload_n hx hb dX1_movedByOctets_34 rfl (lv_at hl 1 rfl) ?_
  refine lv_lstore (lv' := [(7, .long x1), (0, .ref hfo), (1, .long x1), (3, .long x3), (5, .long x5_4)]) hx hb dX1_movedByOctets_35 hl (by decide) rfl (fun ls hl => ?_)
  refine lv_iconst (v := (0 : Int32)) hx hb dX1_movedByOctets_37 (by decide) ?_
  refine lv_istore (lv' := [(9, .int (0 : Int32)), (7, .long x1), (0, .ref hfo), (1, .long x1), (3, .long x3), (5, .long x5_4)]) hx hb dX1_movedByOctets_38 hl (by decide) rfl (fun ls hl => ?_)
  refine wX1_movedByOctets_L40 E0 N rw rg x3 hP _ (fun x7_14 ls hl hf => ?_) N _ _ _ _ (lv_sub hl [2, 4, 5, 1, 0] rfl) hf
  refine lv_lload hx hb dX1_movedByOctets_99 (lv_at hl 0 rfl) ?_
  exact W.lret (v := x7_14) hx hb hr (fun t ht hW => ⟨_, rfl, Option.some.inj hf, ht⟩) (fun _ h => absurd h List.not_mem_nil) dX1_movedByOctets_101
/-! SumForms$Form.movedDown(J)J -/
abbrev rX1_movedDown : Room := { frames := 0, cells := 0, slots := 0, locals := 0 }
theorem mX1_movedDown_0 : Cond.fieldLink RX1 29 "SumForms$Form" "generator" "J" ∈ wsX1_movedDown := by decide +kernel
theorem inX1_movedDown_X1 : ∀ w ∈ u_ws RX1 TX1 8, w ∈ wsX1_movedDown := by decide +kernel
abbrev GX1_movedDown (p : Program) (l : Launch) (e : Env) (s : State) (m : MethodId) (args : Array Value) (below : List Frame) (meth : Method) (c : Code) (r0 : Int64) (fr : JFrame) : Prop := W p l e (headSpec wsX1_movedDown rX1_movedDown).room s m args below meth c s.heap [] 0 0 (MQ below (vp_Sl (fun r => r = r0)) args s 0 0 (fun _ => False)) fr
def fX1_movedDown (N : Nat) (rg : Int64) (x1 : Int64) : Option (Int64) := (if (x1 &&& (1 : Int64)) = (0 : Int64) then (some (lUsh x1 (1 : Int32))) else (some (lUsh (x1 ^^^ rg) (1 : Int32))))
set_option maxHeartbeats 4000000 in
set_option maxRecDepth 100000 in
theorem ctX1_movedDown (l : Launch) (D : va_G) (cy : Nat → ClassId) (N : Nat) (hfo hfa hun : Nat) (rw : Int32) (rg : Int64) (rs : Int64) (re : Int64) (ri : Int32) (ro : Int32) (x1 : Int64) (r0 : Int64) (hf : fX1_movedDown N rg x1 = some r0) : Met l yX1_movedDown wsX1_movedDown rX1_movedDown (va_Pc [.ref hfo, .long x1] (Rd D cy [(hfo, .inr (1, [.int rw, .long rg, .long rs, .long re, .int ri, .int ro, .ref hfa, .ref hun]))])) (vp_Sl (fun r => r = r0)) 0 0 (fun _ => False) := by
  refine Met.ofW (cc := cX1_movedDown) (maxL := 3) (ret := (some .long)) (by decide) rfl ?_
  intro p e s m args below meth c s₁ B hml hv
  obtain ⟨rfl, hP, hB⟩ := hv
  have hx := B.exec
  have hb := B.bytes
  have hr := B.returns
  have hts := atoms_spec (ws := wsX1_movedDown) B.pre
  have hown : s.vm.findClass RX1 = some m.cls := findClass_of_methodNamed B.named
  have hlocks := B.notSynchronized
  have hK := hB.1
  have hN := hB.2
  have hl := lv_entry ([.ref hfo, .long x1]) (n := 3) (Nat.le_of_ble_eq_true rfl)
  rw [lg_entry_eq]
  generalize (lg_sl ([.ref hfo, .long x1]) ++ List.replicate (3 - (lg_sl ([.ref hfo, .long x1])).length) Slot.unset).toArray = ls at hl ⊢
  have hl : lv_has ls 3 [(0, .ref hfo), (1, .long x1)] := hl
  have E0 : En p m c cX1_movedDown 3 s ([.ref hfo, .long x1] : List Value).toArray wsX1_movedDown RX1 meth (some .long) D cy := ⟨⟨hx, hb, hml, hown, hts⟩, hr, hlocks, hB⟩
  unfold fX1_movedDown at hf
  refine lv_lload_n hx hb dX1_movedDown_0 rfl (lv_at hl 1 rfl) ?_
  refine lv_lconst (v := (1 : Int64)) hx hb dX1_movedDown_1 (by decide) ?_
  refine lv_land hx hb dX1_movedDown_2 ?_
  refine lv_lconst (v := (0 : Int64)) hx hb dX1_movedDown_3 (by decide) ?_
  refine zz_lc_eq (tgt := 17) hx hb dX1_movedDown_4 dX1_movedDown_5 (by decide) (fun c_1 => ?_) (fun c_1 => ?_)
  · have hf := ite_t hf c_1
    refine lv_lload_n hx hb dX1_movedDown_17 rfl (lv_at hl 1 rfl) ?_
    refine lv_iconst (v := (1 : Int32)) hx hb dX1_movedDown_18 (by decide) ?_
    refine zz_lushr hx hb dX1_movedDown_19 ?_
    exact W.lret (v := (lUsh x1 (1 : Int32))) hx hb hr (fun t ht hW => ⟨_, rfl, Option.some.inj hf, ht⟩) (fun _ h => absurd h List.not_mem_nil) dX1_movedDown_20
  · have hf := ite_f hf c_1
    refine lv_lload_n hx hb dX1_movedDown_8 rfl (lv_at hl 1 rfl) ?_
    refine lv_aload_n hx hb dX1_movedDown_9 rfl (lv_at hl 0 rfl) ?_
    refine va_get (D := D) (ci := 1) (v := .long rg) (C := RX1) (T := TX1) (N := 8) hx hb hts inX1_movedDown_X1 hown hK hP 0 rfl rfl 1 (by decide) (hts _ mX1_movedDown_0) (fun _ h9 => h9) rfl dX1_movedDown_10 ?_
    refine lv_lxor hx hb dX1_movedDown_13 ?_
    refine lv_goto (tgt := 18) hx hb dX1_movedDown_14 (by decide) ?_
    refine lv_iconst (v := (1 : Int32)) hx hb dX1_movedDown_18 (by decide) ?_
    refine zz_lushr hx hb dX1_movedDown_19 ?_
    exact W.lret (v := (lUsh (x1 ^^^ rg) (1 : Int32))) hx hb hr (fun t ht hW => ⟨_, rfl, Option.some.inj hf, ht⟩) (fun _ h => absurd h List.not_mem_nil) dX1_movedDown_20
/-! SumForms$Form.turned(JI)J -/
abbrev rX1_turned : Room := { frames := 0, cells := 0, slots := 0, locals := 0 }
abbrev GX1_turned (p : Program) (l : Launch) (e : Env) (s : State) (m : MethodId) (args : Array Value) (below : List Frame) (meth : Method) (c : Code) (r0 : Int64) (fr : JFrame) : Prop := W p l e (headSpec wsX1_turned rX1_turned).room s m args below meth c s.heap [] 0 0 (MQ below (vp_Sl (fun r => r = r0)) args s 0 0 (fun _ => False)) fr
def fX1_turned_B5 (N : Nat) (x0 : Int64) (x2 : Int32) (self : Int64 → Int32 → Option (Int64)) (k : Int64 → Option (Int64)) (x3 : Int64) (x5 : Int32) : Option (Int64) := (if x2 ≤ x5 then (k x3) else (self ((lShl x3 (1 : Int32)) ||| ((lUsh x0 x5) &&& (1 : Int64))) (x5 + (1 : Int32))))
def fX1_turned_L5 (N : Nat) (x0 : Int64) (x2 : Int32) (k : Int64 → Option (Int64)) : Nat → Int64 → Int32 → Option (Int64)
  | 0 => fun _ _ => none
  | n + 1 => fun x3 x5 => fX1_turned_B5 N x0 x2 (fX1_turned_L5 N x0 x2 k n) k x3 x5
def fX1_turned (N : Nat)  (x0 : Int64) (x2 : Int32) : Option (Int64) := (fX1_turned_L5 N x0 x2 (fun x3_2 => (some x3_2)) N (0 : Int64) (0 : Int32))
set_option maxHeartbeats 4000000 in
set_option maxRecDepth 100000 in
theorem wX1_turned_B5 {p : Program} {l : Launch} {e : Env} {s : State} {m : MethodId} {args : Array Value} {below : List Frame} {meth : Method} {c : Code} {D : va_G} {cy : Nat → ClassId} {r0 : Int64} (E0 : En p m c cX1_turned 6 s args wsX1_turned RX1 meth (some .long) D cy) (N : Nat) (x0 : Int64) (x2 : Int32) (hP : va_P D vwCl [] s.heap) (self : Int64 → Int32 → Option (Int64)) (hself : ∀ (x3 : Int64) (x5 : Int32) (ls : Array Slot), lv_has ls 6 [(0, .long x0), (2, .int x2), (3, .long x3), (5, .int x5)] → self x3 x5 = some r0 → GX1_turned p l e s m args below meth c r0 (F0 m 5 ls [])) (k : Int64 → Option (Int64)) (hk : ∀ (x3 : Int64) (ls : Array Slot), lv_has ls 6 [(3, .long x3)] → k x3 = some r0 → GX1_turned p l e s m args below meth c r0 (F0 m 28 ls [])) : ∀ (x3 : Int64) (x5 : Int32) (ls : Array Slot), lv_has ls 6 [(0, .long x0), (2, .int x2), (3, .long x3), (5, .int x5)] → fX1_turned_B5 N x0 x2 self k x3 x5 = some r0 → GX1_turned p l e s m args below meth c r0 (F0 m 5 ls []) := by
  obtain ⟨⟨hx, hb, hml, hown, hts⟩, hr, hlocks, hB⟩ := id E0
  have hK := hB.1
  have hN := hB.2
  intro x3 x5 ls hl hf
  unfold fX1_turned_B5 at hf
  refine lv_iload hx hb dX1_turned_5 (lv_at hl 3 rfl) ?_
  refine lv_iload_n hx hb dX1_turned_7 rfl (lv_at hl 1 rfl) ?_
  refine lv_icmp_ge (tgt := 28) hx hb dX1_turned_8 (by decide) (fun c_1 => ?_) (fun c_1 => ?_)
  · have hf := ite_t hf c_1
    exact hk _ _ (lv_sub hl [2] rfl) hf
  · have hf := ite_f hf c_1
    refine lv_lload_n hx hb dX1_turned_11 rfl (lv_at hl 2 rfl) ?_
    refine lv_iconst (v := (1 : Int32)) hx hb dX1_turned_12 (by decide) ?_
    refine zz_lshl hx hb dX1_turned_13 ?_
    refine lv_lload_n hx hb dX1_turned_14 rfl (lv_at hl 0 rfl) ?_
    refine lv_iload hx hb dX1_turned_15 (lv_at hl 3 rfl) ?_
    refine zz_lushr hx hb dX1_turned_17 ?_
    refine lv_lconst (v := (1 : Int64)) hx hb dX1_turned_18 (by decide) ?_
    refine lv_land hx hb dX1_turned_19 ?_
    refine lv_lor hx hb dX1_turned_20 ?_
    refine lv_lstore_n (lv' := [(3, .long ((lShl x3 (1 : Int32)) ||| ((lUsh x0 x5) &&& (1 : Int64)))), (0, .long x0), (2, .int x2), (5, .int x5)]) hx hb dX1_turned_21 rfl hl (by decide) rfl (fun ls hl => ?_)
    refine lv_iinc (v := (x5 + (1 : Int32))) (lv' := [(5, .int (x5 + (1 : Int32))), (3, .long ((lShl x3 (1 : Int32)) ||| ((lUsh x0 x5) &&& (1 : Int64)))), (0, .long x0), (2, .int x2)]) hx hb dX1_turned_22 hl (k := 3) rfl rfl (by decide) rfl (fun ls hl => ?_)
    refine lv_goto (tgt := 5) hx hb dX1_turned_25 (by decide) ?_
    exact hself _ _ _ (lv_sub hl [2, 3, 1, 0] rfl) hf
theorem wX1_turned_L5 {p : Program} {l : Launch} {e : Env} {s : State} {m : MethodId} {args : Array Value} {below : List Frame} {meth : Method} {c : Code} {D : va_G} {cy : Nat → ClassId} {r0 : Int64} (E0 : En p m c cX1_turned 6 s args wsX1_turned RX1 meth (some .long) D cy) (N : Nat) (x0 : Int64) (x2 : Int32) (hP : va_P D vwCl [] s.heap) (k : Int64 → Option (Int64)) (hk : ∀ (x3 : Int64) (ls : Array Slot), lv_has ls 6 [(3, .long x3)] → k x3 = some r0 → GX1_turned p l e s m args below meth c r0 (F0 m 28 ls [])) : ∀ (n : Nat), ∀ (x3 : Int64) (x5 : Int32) (ls : Array Slot), lv_has ls 6 [(0, .long x0), (2, .int x2), (3, .long x3), (5, .int x5)] → fX1_turned_L5 N x0 x2 k n x3 x5 = some r0 → GX1_turned p l e s m args below meth c r0 (F0 m 5 ls []) := by
  intro n
  induction n with
  | zero => intro x3 x5 ls hl hf; cases hf
  | succ n ih => exact wX1_turned_B5 E0 N x0 x2 hP _ ih k hk
set_option maxHeartbeats 4000000 in
set_option maxRecDepth 100000 in
theorem ctX1_turned (l : Launch) (D : va_G) (cy : Nat → ClassId) (N : Nat)  (x0 : Int64) (x2 : Int32) (r0 : Int64) (hf : fX1_turned N x0 x2 = some r0) : Met l yX1_turned wsX1_turned rX1_turned (va_Pc [.long x0, .int x2] (Rd D cy [])) (vp_Sl (fun r => r = r0)) 0 0 (fun _ => False) := by
  refine Met.ofW (cc := cX1_turned) (maxL := 6) (ret := (some .long)) (by decide) rfl ?_
  intro p e s m args below meth c s₁ B hml hv
  obtain ⟨rfl, hP, hB⟩ := hv
  have hx := B.exec
  have hb := B.bytes
  have hr := B.returns
  have hts := atoms_spec (ws := wsX1_turned) B.pre
  have hown : s.vm.findClass RX1 = some m.cls := findClass_of_methodNamed B.named
  have hlocks := B.notSynchronized
  have hK := hB.1
  have hN := hB.2
  have hl := lv_entry ([.long x0, .int x2]) (n := 6) (Nat.le_of_ble_eq_true rfl)
  rw [lg_entry_eq]
  generalize (lg_sl ([.long x0, .int x2]) ++ List.replicate (6 - (lg_sl ([.long x0, .int x2])).length) Slot.unset).toArray = ls at hl ⊢
  have hl : lv_has ls 6 [(0, .long x0), (2, .int x2)] := hl
  have E0 : En p m c cX1_turned 6 s ([.long x0, .int x2] : List Value).toArray wsX1_turned RX1 meth (some .long) D cy := ⟨⟨hx, hb, hml, hown, hts⟩, hr, hlocks, hB⟩
  unfold fX1_turned at hf
  refine lv_lconst (v := (0 : Int64)) hx hb dX1_turned_0 (by decide) ?_
  refine lv_lstore_n (lv' := [(3, .long (0 : Int64)), (0, .long x0), (2, .int x2)]) hx hb dX1_turned_1 rfl hl (by decide) rfl (fun ls hl => ?_)
  refine lv_iconst (v := (0 : Int32)) hx hb dX1_turned_2 (by decide) ?_
  refine lv_istore (lv' := [(5, .int (0 : Int32)), (3, .long (0 : Int64)), (0, .long x0), (2, .int x2)]) hx hb dX1_turned_3 hl (by decide) rfl (fun ls hl => ?_)
  refine wX1_turned_L5 E0 N x0 x2 hP _ (fun x3_2 ls hl hf => ?_) N _ _ _ (lv_sub hl [2, 3, 1, 0] rfl) hf
  refine lv_lload_n hx hb dX1_turned_28 rfl (lv_at hl 0 rfl) ?_
  exact W.lret (v := x3_2) hx hb hr (fun t ht hW => ⟨_, rfl, Option.some.inj hf, ht⟩) (fun _ h => absurd h List.not_mem_nil) dX1_turned_29
/-! SumForms$Form.turnedByOctets(J)J -/
abbrev rX1_turnedByOctets : Room := { frames := 1, cells := 0, slots := 0, locals := 25 }
theorem mX1_turnedByOctets_0 : Cond.fieldLink RX1 25 "SumForms$Form" "width" "I" ∈ wsX1_turnedByOctets := by decide +kernel
theorem mX1_turnedByOctets_1 : Cond.constantLong RX1 67 (255) ∈ wsX1_turnedByOctets := by decide +kernel
theorem inX1_turnedByOctets_X1 : ∀ w ∈ u_ws RX1 TX1 8, w ∈ wsX1_turnedByOctets := by decide +kernel
abbrev GX1_turnedByOctets (p : Program) (l : Launch) (e : Env) (s : State) (m : MethodId) (args : Array Value) (below : List Frame) (meth : Method) (c : Code) (r0 : Int64) (fr : JFrame) : Prop := W p l e (headSpec wsX1_turnedByOctets rX1_turnedByOctets).room s m args below meth c s.heap [] 0 0 (MQ below (vp_Sl (fun r => r = r0)) args s 0 0 (fun _ => False)) fr
def fX1_turnedByOctets_B5 (N : Nat) (rw : Int32) (x1 : Int64) (self : Int64 → Int32 → Option (Int64)) (k : Int64 → Option (Int64)) (x3 : Int64) (x5 : Int32) : Option (Int64) := (if rw ≤ x5 then (k x3) else ((fX1_turned N ((lUsh x1 x5) &&& (255 : Int64)) (8 : Int32)).bind (fun r_2 => (self (x3 ||| (lShl r_2 x5)) (x5 + (8 : Int32))))))
def fX1_turnedByOctets_L5 (N : Nat) (rw : Int32) (x1 : Int64) (k : Int64 → Option (Int64)) : Nat → Int64 → Int32 → Option (Int64)
  | 0 => fun _ _ => none
  | n + 1 => fun x3 x5 => fX1_turnedByOctets_B5 N rw x1 (fX1_turnedByOctets_L5 N rw x1 k n) k x3 x5
def fX1_turnedByOctets (N : Nat) (rw : Int32) (x1 : Int64) : Option (Int64) := (fX1_turnedByOctets_L5 N rw x1 (fun x3_4 => (some x3_4)) N (0 : Int64) (0 : Int32))
set_option maxHeartbeats 4000000 in
set_option maxRecDepth 100000 in
theorem wX1_turnedByOctets_B5 {p : Program} {l : Launch} {e : Env} {s : State} {m : MethodId} {args : Array Value} {below : List Frame} {meth : Method} {c : Code} {D : va_G} {cy : Nat → ClassId} {hfo hfa hun : Nat} {rg : Int64} {rs : Int64} {re : Int64} {ri : Int32} {ro : Int32} {r0 : Int64} (E0 : En p m c cX1_turnedByOctets 6 s args wsX1_turnedByOctets RX1 meth (some .long) D cy) (N : Nat) (rw : Int32) (x1 : Int64) (hP : va_P D vwCl [(hfo, .inr (1, [.int rw, .long rg, .long rs, .long re, .int ri, .int ro, .ref hfa, .ref hun]))] s.heap) (self : Int64 → Int32 → Option (Int64)) (hself : ∀ (x3 : Int64) (x5 : Int32) (ls : Array Slot), lv_has ls 6 [(0, .ref hfo), (1, .long x1), (3, .long x3), (5, .int x5)] → self x3 x5 = some r0 → GX1_turnedByOctets p l e s m args below meth c r0 (F0 m 5 ls [])) (k : Int64 → Option (Int64)) (hk : ∀ (x3 : Int64) (ls : Array Slot), lv_has ls 6 [(3, .long x3)] → k x3 = some r0 → GX1_turnedByOctets p l e s m args below meth c r0 (F0 m 39 ls [])) : ∀ (x3 : Int64) (x5 : Int32) (ls : Array Slot), lv_has ls 6 [(0, .ref hfo), (1, .long x1), (3, .long x3), (5, .int x5)] → fX1_turnedByOctets_B5 N rw x1 self k x3 x5 = some r0 → GX1_turnedByOctets p l e s m args below meth c r0 (F0 m 5 ls []) := by
  obtain ⟨⟨hx, hb, hml, hown, hts⟩, hr, hlocks, hB⟩ := id E0
  have hK := hB.1
  have hN := hB.2
  intro x3 x5 ls hl hf
  unfold fX1_turnedByOctets_B5 at hf
  refine lv_iload hx hb dX1_turnedByOctets_5 (lv_at hl 3 rfl) ?_
  refine lv_aload_n hx hb dX1_turnedByOctets_7 rfl (lv_at hl 0 rfl) ?_
  refine va_get (D := D) (ci := 1) (v := .int rw) (C := RX1) (T := TX1) (N := 8) hx hb hts inX1_turnedByOctets_X1 hown hK hP 0 rfl rfl 0 (by decide) (hts _ mX1_turnedByOctets_0) (fun _ h9 => h9) rfl dX1_turnedByOctets_8 ?_
  refine lv_icmp_ge (tgt := 39) hx hb dX1_turnedByOctets_11 (by decide) (fun c_1 => ?_) (fun c_1 => ?_)
  · have hf := ite_t hf c_1
    exact hk _ _ (lv_sub hl [2] rfl) hf
  · have hf := ite_f hf c_1
    refine lv_lload_n hx hb dX1_turnedByOctets_14 rfl (lv_at hl 2 rfl) ?_
    refine lv_lload_n hx hb dX1_turnedByOctets_15 rfl (lv_at hl 1 rfl) ?_
    refine lv_iload hx hb dX1_turnedByOctets_16 (lv_at hl 3 rfl) ?_
    refine zz_lushr hx hb dX1_turnedByOctets_18 ?_
    refine lv_ldc2 (v := (255 : Int64)) hx hb hown (hts _ mX1_turnedByOctets_1) dX1_turnedByOctets_19 ?_
    refine lv_land hx hb dX1_turnedByOctets_22 ?_
    refine lv_bipush (v := (8 : Int32)) hx hb dX1_turnedByOctets_23 (by decide) ?_
    obtain ⟨r_2, h_3, hf⟩ := bind_some hf
    have hP_r_2 : va_P D vwCl [] s.heap := hP.sub [] rfl
    refine cz_l (va_runS (As := [.long ((lUsh x1 x5) &&& (255 : Int64)), .int (8 : Int32)]) (rest := [.long x3]) ⟨hx, hb, hml, hown, hts⟩ (ctX1_turned l D cy N   ((lUsh x1 x5) &&& (255 : Int64)) (8 : Int32) r_2 h_3) (va_cwS 2 hts gX1_turnedByOctets_X1_turned rfl rfl rfl (by decide +kernel) ⟨Nat.le_of_ble_eq_true rfl, Nat.le_of_ble_eq_true rfl⟩) (preS_rd [.long ((lUsh x1 x5) &&& (255 : Int64)), .int (8 : Int32)] hP_r_2 hB) rfl rfl hl.1 rfl (lv_room (Nat.le_of_ble_eq_true rfl)) dX1_turnedByOctets_25 ⟨Nat.zero_le _, Nat.zero_le _⟩) ?_
    refine lv_iload hx hb dX1_turnedByOctets_28 (lv_at hl 3 rfl) ?_
    refine zz_lshl hx hb dX1_turnedByOctets_30 ?_
    refine lv_lor hx hb dX1_turnedByOctets_31 ?_
    refine lv_lstore_n (lv' := [(3, .long (x3 ||| (lShl r_2 x5))), (0, .ref hfo), (1, .long x1), (5, .int x5)]) hx hb dX1_turnedByOctets_32 rfl hl (by decide) rfl (fun ls hl => ?_)
    refine lv_iinc (v := (x5 + (8 : Int32))) (lv' := [(5, .int (x5 + (8 : Int32))), (3, .long (x3 ||| (lShl r_2 x5))), (0, .ref hfo), (1, .long x1)]) hx hb dX1_turnedByOctets_33 hl (k := 3) rfl rfl (by decide) rfl (fun ls hl => ?_)
    refine lv_goto (tgt := 5) hx hb dX1_turnedByOctets_36 (by decide) ?_
    exact hself _ _ _ (lv_sub hl [2, 3, 1, 0] rfl) hf
theorem wX1_turnedByOctets_L5 {p : Program} {l : Launch} {e : Env} {s : State} {m : MethodId} {args : Array Value} {below : List Frame} {meth : Method} {c : Code} {D : va_G} {cy : Nat → ClassId} {hfo hfa hun : Nat} {rg : Int64} {rs : Int64} {re : Int64} {ri : Int32} {ro : Int32} {r0 : Int64} (E0 : En p m c cX1_turnedByOctets 6 s args wsX1_turnedByOctets RX1 meth (some .long) D cy) (N : Nat) (rw : Int32) (x1 : Int64) (hP : va_P D vwCl [(hfo, .inr (1, [.int rw, .long rg, .long rs, .long re, .int ri, .int ro, .ref hfa, .ref hun]))] s.heap) (k : Int64 → Option (Int64)) (hk : ∀ (x3 : Int64) (ls : Array Slot), lv_has ls 6 [(3, .long x3)] → k x3 = some r0 → GX1_turnedByOctets p l e s m args below meth c r0 (F0 m 39 ls [])) : ∀ (n : Nat), ∀ (x3 : Int64) (x5 : Int32) (ls : Array Slot), lv_has ls 6 [(0, .ref hfo), (1, .long x1), (3, .long x3), (5, .int x5)] → fX1_turnedByOctets_L5 N rw x1 k n x3 x5 = some r0 → GX1_turnedByOctets p l e s m args below meth c r0 (F0 m 5 ls []) := by
  intro n
  induction n with
  | zero => intro x3 x5 ls hl hf; cases hf
  | succ n ih => exact wX1_turnedByOctets_B5 E0 N rw x1 hP _ ih k hk
set_option maxHeartbeats 4000000 in
set_option maxRecDepth 100000 in
theorem ctX1_turnedByOctets (l : Launch) (D : va_G) (cy : Nat → ClassId) (N : Nat) (hfo hfa hun : Nat) (rw : Int32) (rg : Int64) (rs : Int64) (re : Int64) (ri : Int32) (ro : Int32) (x1 : Int64) (r0 : Int64) (hf : fX1_turnedByOctets N rw x1 = some r0) : Met l yX1_turnedByOctets wsX1_turnedByOctets rX1_turnedByOctets (va_Pc [.ref hfo, .long x1] (Rd D cy [(hfo, .inr (1, [.int rw, .long rg, .long rs, .long re, .int ri, .int ro, .ref hfa, .ref hun]))])) (vp_Sl (fun r => r = r0)) 0 0 (fun _ => False) := by
  refine Met.ofW (cc := cX1_turnedByOctets) (maxL := 6) (ret := (some .long)) (by decide) rfl ?_
  intro p e s m args below meth c s₁ B hml hv
  obtain ⟨rfl, hP, hB⟩ := hv
  have hx := B.exec
  have hb := B.bytes
  have hr := B.returns
  have hts := atoms_spec (ws := wsX1_turnedByOctets) B.pre
  have hown : s.vm.findClass RX1 = some m.cls := findClass_of_methodNamed B.named
  have hlocks := B.notSynchronized
  have hK := hB.1
  have hN := hB.2
  have hl := lv_entry ([.ref hfo, .long x1]) (n := 6) (Nat.le_of_ble_eq_true rfl)
  rw [lg_entry_eq]
  generalize (lg_sl ([.ref hfo, .long x1]) ++ List.replicate (6 - (lg_sl ([.ref hfo, .long x1])).length) Slot.unset).toArray = ls at hl ⊢
  have hl : lv_has ls 6 [(0, .ref hfo), (1, .long x1)] := hl
  have E0 : En p m c cX1_turnedByOctets 6 s ([.ref hfo, .long x1] : List Value).toArray wsX1_turnedByOctets RX1 meth (some .long) D cy := ⟨⟨hx, hb, hml, hown, hts⟩, hr, hlocks, hB⟩
  unfold fX1_turnedByOctets at hf
  refine lv_lconst (v := (0 : Int64)) hx hb dX1_turnedByOctets_0 (by decide) ?_
  refine lv_lstore_n (lv' := [(3, .long (0 : Int64)), (0, .ref hfo), (1, .long x1)]) hx hb dX1_turnedByOctets_1 rfl hl (by decide) rfl (fun ls hl => ?_)
  refine lv_iconst (v := (0 : Int32)) hx hb dX1_turnedByOctets_2 (by decide) ?_
  refine lv_istore (lv' := [(5, .int (0 : Int32)), (3, .long (0 : Int64)), (0, .ref hfo), (1, .long x1)]) hx hb dX1_turnedByOctets_3 hl (by decide) rfl (fun ls hl => ?_)
  refine wX1_turnedByOctets_L5 E0 N rw x1 hP _ (fun x3_4 ls hl hf => ?_) N _ _ _ (lv_sub hl [2, 3, 1, 0] rfl) hf
  refine lv_lload_n hx hb dX1_turnedByOctets_39 rfl (lv_at hl 0 rfl) ?_
  exact W.lret (v := x3_4) hx hb hr (fun t ht hW => ⟨_, rfl, Option.some.inj hf, ht⟩) (fun _ h => absurd h List.not_mem_nil) dX1_turnedByOctets_40
/-! SumForms$Form.octetsBetween(JJ)J -/
abbrev rX1_octetsBetween : Room := { frames := 2, cells := 0, slots := 0, locals := 50 }
theorem mX1_octetsBetween_0 : Cond.fieldLink RX1 25 "SumForms$Form" "width" "I" ∈ wsX1_octetsBetween := by decide +kernel
theorem mX1_octetsBetween_1 : Cond.fieldLink RX1 39 "SumForms$Form" "in" "Z" ∈ wsX1_octetsBetween := by decide +kernel
theorem inX1_octetsBetween_X1 : ∀ w ∈ u_ws RX1 TX1 8, w ∈ wsX1_octetsBetween := by decide +kernel
abbrev GX1_octetsBetween (p : Program) (l : Launch) (e : Env) (s : State) (m : MethodId) (args : Array Value) (below : List Frame) (meth : Method) (c : Code) (r0 : Int64) (fr : JFrame) : Prop := W p l e (headSpec wsX1_octetsBetween rX1_octetsBetween).room s m args below meth c s.heap [] 0 0 (MQ below (vp_Sl (fun r => r = r0)) args s 0 0 (fun _ => False)) fr
def fX1_octetsBetween_B6 (N : Nat) (rw : Int32) (rg : Int64) (ri : Int32) (x1 : Int64) (self : Int64 → Int32 → Option (Int64)) (k : Int64 → Option (Int64)) (x5 : Int64) (x7 : Int32) : Option (Int64) := (if rw ≤ x7 then (k x5) else ((fX1_movedDown N rg x5).bind (fun r_2 => (self r_2 (x7 + (1 : Int32))))))
def fX1_octetsBetween_L6 (N : Nat) (rw : Int32) (rg : Int64) (ri : Int32) (x1 : Int64) (k : Int64 → Option (Int64)) : Nat → Int64 → Int32 → Option (Int64)
  | 0 => fun _ _ => none
  | n + 1 => fun x5 x7 => fX1_octetsBetween_B6 N rw rg ri x1 (fX1_octetsBetween_L6 N rw rg ri x1 k n) k x5 x7
def fX1_octetsBetween (N : Nat) (rw : Int32) (rg : Int64) (ri : Int32) (x1 : Int64) (x3 : Int64) : Option (Int64) := (fX1_octetsBetween_L6 N rw rg ri x1 (fun x5_4 => (if ri = 0 then (some (x5_4 ^^^ x1)) else ((fX1_turnedByOctets N rw (x5_4 ^^^ x1)).bind (fun r_6 => (some r_6))))) N x3 (0 : Int32))
set_option maxHeartbeats 4000000 in
set_option maxRecDepth 100000 in
theorem wX1_octetsBetween_B6 {p : Program} {l : Launch} {e : Env} {s : State} {m : MethodId} {args : Array Value} {below : List Frame} {meth : Method} {c : Code} {D : va_G} {cy : Nat → ClassId} {hfo hfa hun : Nat} {rs : Int64} {re : Int64} {ro : Int32} {r0 : Int64} (E0 : En p m c cX1_octetsBetween 9 s args wsX1_octetsBetween RX1 meth (some .long) D cy) (N : Nat) (rw : Int32) (rg : Int64) (ri : Int32) (x1 : Int64) (hP : va_P D vwCl [(hfo, .inr (1, [.int rw, .long rg, .long rs, .long re, .int ri, .int ro, .ref hfa, .ref hun]))] s.heap) (self : Int64 → Int32 → Option (Int64)) (hself : ∀ (x5 : Int64) (x7 : Int32) (ls : Array Slot), lv_has ls 9 [(0, .ref hfo), (1, .long x1), (5, .long x5), (7, .int x7)] → self x5 x7 = some r0 → GX1_octetsBetween p l e s m args below meth c r0 (F0 m 6 ls [])) (k : Int64 → Option (Int64)) (hk : ∀ (x5 : Int64) (ls : Array Slot), lv_has ls 9 [(0, .ref hfo), (1, .long x1), (5, .long x5)] → k x5 = some r0 → GX1_octetsBetween p l e s m args below meth c r0 (F0 m 29 ls [])) : ∀ (x5 : Int64) (x7 : Int32) (ls : Array Slot), lv_has ls 9 [(0, .ref hfo), (1, .long x1), (5, .long x5), (7, .int x7)] → fX1_octetsBetween_B6 N rw rg ri x1 self k x5 x7 = some r0 → GX1_octetsBetween p l e s m args below meth c r0 (F0 m 6 ls []) := by
  obtain ⟨⟨hx, hb, hml, hown, hts⟩, hr, hlocks, hB⟩ := id E0
  have hK := hB.1
  have hN := hB.2
  intro x5 x7 ls hl hf
  unfold fX1_octetsBetween_B6 at hf
  refine lv_iload hx hb dX1_octetsBetween_6 (lv_at hl 3 rfl) ?_
  refine lv_aload_n hx hb dX1_octetsBetween_8 rfl (lv_at hl 0 rfl) ?_
  refine va_get (D := D) (ci := 1) (v := .int rw) (C := RX1) (T := TX1) (N := 8) hx hb hts inX1_octetsBetween_X1 hown hK hP 0 rfl rfl 0 (by decide) (hts _ mX1_octetsBetween_0) (fun _ h9 => h9) rfl dX1_octetsBetween_9 ?_
  refine lv_icmp_ge (tgt := 29) hx hb dX1_octetsBetween_12 (by decide) (fun c_1 => ?_) (fun c_1 => ?_)
  · have hf := ite_t hf c_1
    exact hk _ _ (lv_sub hl [0, 1, 2] rfl) hf
  · have hf := ite_f hf c_1
    refine lv_aload_n hx hb dX1_octetsBetween_15 rfl (lv_at hl 0 rfl) ?_
    refine lv_lload hx hb dX1_octetsBetween_16 (lv_at hl 2 rfl) ?_
    obtain ⟨r_2, h_3, hf⟩ := bind_some hf
    have hP_r_2 : va_P D vwCl [(hfo, .inr (1, [.int rw, .long rg, .long rs, .long re, .int ri, .int ro, .ref hfa, .ref hun]))] s.heap := hP.sub [0] rfl
    refine cz_l (va_runV (As := [.long x5]) (rest := []) ⟨hx, hb, hml, hown, hts⟩ (ctX1_movedDown l D cy N hfo hfa hun rw rg rs re ri ro x5 r_2 h_3) (cwV 1 hts gX1_octetsBetween_X1_movedDown rfl rfl rfl (by decide +kernel) ⟨Nat.le_of_ble_eq_true rfl, Nat.le_of_ble_eq_true rfl⟩) (preV_rd (ci := 1) (q0 := 0) [.long x5] hP_r_2 hB rfl rfl) rfl rfl hl.1 rfl (lv_room (Nat.le_of_ble_eq_true rfl)) dX1_octetsBetween_18 ⟨Nat.zero_le _, Nat.zero_le _⟩) ?_
    refine lv_lstore (lv' := [(5, .long r_2), (0, .ref hfo), (1, .long x1), (7, .int x7)]) hx hb dX1_octetsBetween_21 hl (by decide) rfl (fun ls hl => ?_)
    refine lv_iinc (v := (x7 + (1 : Int32))) (lv' := [(7, .int (x7 + (1 : Int32))), (5, .long r_2), (0, .ref hfo), (1, .long x1)]) hx hb dX1_octetsBetween_23 hl (k := 3) rfl rfl (by decide) rfl (fun ls hl => ?_)
    refine lv_goto (tgt := 6) hx hb dX1_octetsBetween_26 (by decide) ?_
    exact hself _ _ _ (lv_sub hl [2, 3, 1, 0] rfl) hf
theorem wX1_octetsBetween_L6 {p : Program} {l : Launch} {e : Env} {s : State} {m : MethodId} {args : Array Value} {below : List Frame} {meth : Method} {c : Code} {D : va_G} {cy : Nat → ClassId} {hfo hfa hun : Nat} {rs : Int64} {re : Int64} {ro : Int32} {r0 : Int64} (E0 : En p m c cX1_octetsBetween 9 s args wsX1_octetsBetween RX1 meth (some .long) D cy) (N : Nat) (rw : Int32) (rg : Int64) (ri : Int32) (x1 : Int64) (hP : va_P D vwCl [(hfo, .inr (1, [.int rw, .long rg, .long rs, .long re, .int ri, .int ro, .ref hfa, .ref hun]))] s.heap) (k : Int64 → Option (Int64)) (hk : ∀ (x5 : Int64) (ls : Array Slot), lv_has ls 9 [(0, .ref hfo), (1, .long x1), (5, .long x5)] → k x5 = some r0 → GX1_octetsBetween p l e s m args below meth c r0 (F0 m 29 ls [])) : ∀ (n : Nat), ∀ (x5 : Int64) (x7 : Int32) (ls : Array Slot), lv_has ls 9 [(0, .ref hfo), (1, .long x1), (5, .long x5), (7, .int x7)] → fX1_octetsBetween_L6 N rw rg ri x1 k n x5 x7 = some r0 → GX1_octetsBetween p l e s m args below meth c r0 (F0 m 6 ls []) := by
  intro n
  induction n with
  | zero => intro x5 x7 ls hl hf; cases hf
  | succ n ih => exact wX1_octetsBetween_B6 E0 N rw rg ri x1 hP _ ih k hk
set_option maxHeartbeats 4000000 in
set_option maxRecDepth 100000 in
theorem ctX1_octetsBetween (l : Launch) (D : va_G) (cy : Nat → ClassId) (N : Nat) (hfo hfa hun : Nat) (rw : Int32) (rg : Int64) (rs : Int64) (re : Int64) (ri : Int32) (ro : Int32) (x1 : Int64) (x3 : Int64) (r0 : Int64) (hf : fX1_octetsBetween N rw rg ri x1 x3 = some r0) : Met l yX1_octetsBetween wsX1_octetsBetween rX1_octetsBetween (va_Pc [.ref hfo, .long x1, .long x3] (Rd D cy [(hfo, .inr (1, [.int rw, .long rg, .long rs, .long re, .int ri, .int ro, .ref hfa, .ref hun]))])) (vp_Sl (fun r => r = r0)) 0 0 (fun _ => False) := by
  refine Met.ofW (cc := cX1_octetsBetween) (maxL := 9) (ret := (some .long)) (by decide) rfl ?_
  intro p e s m args below meth c s₁ B hml hv
  obtain ⟨rfl, hP, hB⟩ := hv
  have hx := B.exec
  have hb := B.bytes
  have hr := B.returns
  have hts := atoms_spec (ws := wsX1_octetsBetween) B.pre
  have hown : s.vm.findClass RX1 = some m.cls := findClass_of_methodNamed B.named
  have hlocks := B.notSynchronized
  have hK := hB.1
  have hN := hB.2
  have hl := lv_entry ([.ref hfo, .long x1, .long x3]) (n := 9) (Nat.le_of_ble_eq_true rfl)
  rw [lg_entry_eq]
  generalize (lg_sl ([.ref hfo, .long x1, .long x3]) ++ List.replicate (9 - (lg_sl ([.ref hfo, .long x1, .long x3])).length) Slot.unset).toArray = ls at hl ⊢
  have hl : lv_has ls 9 [(0, .ref hfo), (1, .long x1), (3, .long x3)] := hl
  have E0 : En p m c cX1_octetsBetween 9 s ([.ref hfo, .long x1, .long x3] : List Value).toArray wsX1_octetsBetween RX1 meth (some .long) D cy := ⟨⟨hx, hb, hml, hown, hts⟩, hr, hlocks, hB⟩
  unfold fX1_octetsBetween at hf
  refine lv_lload_n hx hb dX1_octetsBetween_0 rfl (lv_at hl 2 rfl) ?_
  refine lv_lstore (lv' := [(5, .long x3), (0, .ref hfo), (1, .long x1), (3, .long x3)]) hx hb dX1_octetsBetween_1 hl (by decide) rfl (fun ls hl => ?_)
  refine lv_iconst (v := (0 : Int32)) hx hb dX1_octetsBetween_3 (by decide) ?_
  refine lv_istore (lv' := [(7, .int (0 : Int32)), (5, .long x3), (0, .ref hfo), (1, .long x1), (3, .long x3)]) hx hb dX1_octetsBetween_4 hl (by decide) rfl (fun ls hl => ?_)
  refine wX1_octetsBetween_L6 E0 N rw rg ri x1 hP _ (fun x5_4 ls hl hf => ?_) N _ _ _ (lv_sub hl [2, 3, 1, 0] rfl) hf
  refine lv_lload hx hb dX1_octetsBetween_29 (lv_at hl 2 rfl) ?_
  refine lv_lload_n hx hb dX1_octetsBetween_31 rfl (lv_at hl 1 rfl) ?_
  refine lv_lxor hx hb dX1_octetsBetween_32 ?_
  refine lv_lstore (lv' := [(7, .long (x5_4 ^^^ x1)), (0, .ref hfo), (1, .long x1), (5, .long x5_4)]) hx hb dX1_octetsBetween_33 hl (by decide) rfl (fun ls hl => ?_)
  refine lv_aload_n hx hb dX1_octetsBetween_35 rfl (lv_at hl 1 rfl) ?_
  refine va_get (D := D) (ci := 1) (v := .int ri) (C := RX1) (T := TX1) (N := 8) hx hb hts inX1_octetsBetween_X1 hown hK hP 0 rfl rfl 4 (by decide) (hts _ mX1_octetsBetween_1) (fun _ h9 => h9) rfl dX1_octetsBetween_36 ?_
  refine lv_if_eq (tgt := 51) hx hb dX1_octetsBetween_39 (by decide) (fun c_5 => ?_) (fun c_5 => ?_)
  · have hf := ite_t hf c_5
    refine lv_lload hx hb dX1_octetsBetween_51 (lv_at hl 0 rfl) ?_
    exact W.lret (v := (x5_4 ^^^ x1)) hx hb hr (fun t ht hW => ⟨_, rfl, Option.some.inj hf, ht⟩) (fun _ h => absurd h List.not_mem_nil) dX1_octetsBetween_53
  · have hf := ite_f hf c_5
    refine lv_aload_n hx hb dX1_octetsBetween_42 rfl (lv_at hl 1 rfl) ?_
    refine lv_lload hx hb dX1_octetsBetween_43 (lv_at hl 0 rfl) ?_
    obtain ⟨r_6, h_7, hf⟩ := bind_some hf
    have hP_r_6 : va_P D vwCl [(hfo, .inr (1, [.int rw, .long rg, .long rs, .long re, .int ri, .int ro, .ref hfa, .ref hun]))] s.heap := hP.sub [0] rfl
    refine cz_l (va_runV (As := [.long (x5_4 ^^^ x1)]) (rest := []) ⟨hx, hb, hml, hown, hts⟩ (ctX1_turnedByOctets l D cy N hfo hfa hun rw rg rs re ri ro (x5_4 ^^^ x1) r_6 h_7) (cwV 1 hts gX1_octetsBetween_X1_turnedByOctets rfl rfl rfl (by decide +kernel) ⟨Nat.le_of_ble_eq_true rfl, Nat.le_of_ble_eq_true rfl⟩) (preV_rd (ci := 1) (q0 := 0) [.long (x5_4 ^^^ x1)] hP_r_6 hB rfl rfl) rfl rfl hl.1 rfl (lv_room (Nat.le_of_ble_eq_true rfl)) dX1_octetsBetween_45 ⟨Nat.zero_le _, Nat.zero_le _⟩) ?_
    refine lv_goto (tgt := 53) hx hb dX1_octetsBetween_48 (by decide) ?_
    exact W.lret (v := r_6) hx hb hr (fun t ht hW => ⟨_, rfl, Option.some.inj hf, ht⟩) (fun _ h => absurd h List.not_mem_nil) dX1_octetsBetween_53
/-! SumForms$Form.registerOf(J)J -/
abbrev rX1_registerOf : Room := { frames := 1, cells := 0, slots := 0, locals := 25 }
theorem mX1_registerOf_0 : Cond.fieldLink RX1 43 "SumForms$Form" "out" "Z" ∈ wsX1_registerOf := by decide +kernel
theorem mX1_registerOf_1 : Cond.fieldLink RX1 36 "SumForms$Form" "end" "J" ∈ wsX1_registerOf := by decide +kernel
theorem mX1_registerOf_2 : Cond.fieldLink RX1 25 "SumForms$Form" "width" "I" ∈ wsX1_registerOf := by decide +kernel
theorem inX1_registerOf_X1 : ∀ w ∈ u_ws RX1 TX1 8, w ∈ wsX1_registerOf := by decide +kernel
abbrev GX1_registerOf (p : Program) (l : Launch) (e : Env) (s : State) (m : MethodId) (args : Array Value) (below : List Frame) (meth : Method) (c : Code) (r0 : Int64) (fr : JFrame) : Prop := W p l e (headSpec wsX1_registerOf rX1_registerOf).room s m args below meth c s.heap [] 0 0 (MQ below (vp_Sl (fun r => r = r0)) args s 0 0 (fun _ => False)) fr
def fX1_registerOf (N : Nat) (rw : Int32) (re : Int64) (ro : Int32) (x1 : Int64) : Option (Int64) := (if ro = 0 then (some (x1 ^^^ re)) else ((fX1_turned N (x1 ^^^ re) rw).bind (fun r_2 => (some r_2))))
set_option maxHeartbeats 4000000 in
set_option maxRecDepth 100000 in
theorem ctX1_registerOf (l : Launch) (D : va_G) (cy : Nat → ClassId) (N : Nat) (hfo hfa hun : Nat) (rw : Int32) (rg : Int64) (rs : Int64) (re : Int64) (ri : Int32) (ro : Int32) (x1 : Int64) (r0 : Int64) (hf : fX1_registerOf N rw re ro x1 = some r0) : Met l yX1_registerOf wsX1_registerOf rX1_registerOf (va_Pc [.ref hfo, .long x1] (Rd D cy [(hfo, .inr (1, [.int rw, .long rg, .long rs, .long re, .int ri, .int ro, .ref hfa, .ref hun]))])) (vp_Sl (fun r => r = r0)) 0 0 (fun _ => False) := by
  refine Met.ofW (cc := cX1_registerOf) (maxL := 3) (ret := (some .long)) (by decide) rfl ?_
  intro p e s m args below meth c s₁ B hml hv
  obtain ⟨rfl, hP, hB⟩ := hv
  have hx := B.exec
  have hb := B.bytes
  have hr := B.returns
  have hts := atoms_spec (ws := wsX1_registerOf) B.pre
  have hown : s.vm.findClass RX1 = some m.cls := findClass_of_methodNamed B.named
  have hlocks := B.notSynchronized
  have hK := hB.1
  have hN := hB.2
  have hl := lv_entry ([.ref hfo, .long x1]) (n := 3) (Nat.le_of_ble_eq_true rfl)
  rw [lg_entry_eq]
  generalize (lg_sl ([.ref hfo, .long x1]) ++ List.replicate (3 - (lg_sl ([.ref hfo, .long x1])).length) Slot.unset).toArray = ls at hl ⊢
  have hl : lv_has ls 3 [(0, .ref hfo), (1, .long x1)] := hl
  have E0 : En p m c cX1_registerOf 3 s ([.ref hfo, .long x1] : List Value).toArray wsX1_registerOf RX1 meth (some .long) D cy := ⟨⟨hx, hb, hml, hown, hts⟩, hr, hlocks, hB⟩
  unfold fX1_registerOf at hf
  refine lv_aload_n hx hb dX1_registerOf_0 rfl (lv_at hl 0 rfl) ?_
  refine va_get (D := D) (ci := 1) (v := .int ro) (C := RX1) (T := TX1) (N := 8) hx hb hts inX1_registerOf_X1 hown hK hP 0 rfl rfl 5 (by decide) (hts _ mX1_registerOf_0) (fun _ h9 => h9) rfl dX1_registerOf_1 ?_
  refine lv_if_eq (tgt := 23) hx hb dX1_registerOf_4 (by decide) (fun c_1 => ?_) (fun c_1 => ?_)
  · have hf := ite_t hf c_1
    refine lv_lload_n hx hb dX1_registerOf_23 rfl (lv_at hl 1 rfl) ?_
    refine lv_aload_n hx hb dX1_registerOf_24 rfl (lv_at hl 0 rfl) ?_
    refine va_get (D := D) (ci := 1) (v := .long re) (C := RX1) (T := TX1) (N := 8) hx hb hts inX1_registerOf_X1 hown hK hP 0 rfl rfl 3 (by decide) (hts _ mX1_registerOf_1) (fun _ h9 => h9) rfl dX1_registerOf_25 ?_
    refine lv_lxor hx hb dX1_registerOf_28 ?_
    exact W.lret (v := (x1 ^^^ re)) hx hb hr (fun t ht hW => ⟨_, rfl, Option.some.inj hf, ht⟩) (fun _ h => absurd h List.not_mem_nil) dX1_registerOf_29
  · have hf := ite_f hf c_1
    refine lv_lload_n hx hb dX1_registerOf_7 rfl (lv_at hl 1 rfl) ?_
    refine lv_aload_n hx hb dX1_registerOf_8 rfl (lv_at hl 0 rfl) ?_
    refine va_get (D := D) (ci := 1) (v := .long re) (C := RX1) (T := TX1) (N := 8) hx hb hts inX1_registerOf_X1 hown hK hP 0 rfl rfl 3 (by decide) (hts _ mX1_registerOf_1) (fun _ h9 => h9) rfl dX1_registerOf_9 ?_
    refine lv_lxor hx hb dX1_registerOf_12 ?_
    refine lv_aload_n hx hb dX1_registerOf_13 rfl (lv_at hl 0 rfl) ?_
    refine va_get (D := D) (ci := 1) (v := .int rw) (C := RX1) (T := TX1) (N := 8) hx hb hts inX1_registerOf_X1 hown hK hP 0 rfl rfl 0 (by decide) (hts _ mX1_registerOf_2) (fun _ h9 => h9) rfl dX1_registerOf_14 ?_
    obtain ⟨r_2, h_3, hf⟩ := bind_some hf
    have hP_r_2 : va_P D vwCl [] s.heap := hP.sub [] rfl
    refine cz_l (va_runS (As := [.long (x1 ^^^ re), .int rw]) (rest := []) ⟨hx, hb, hml, hown, hts⟩ (ctX1_turned l D cy N   (x1 ^^^ re) rw r_2 h_3) (va_cwS 2 hts gX1_registerOf_X1_turned rfl rfl rfl (by decide +kernel) ⟨Nat.le_of_ble_eq_true rfl, Nat.le_of_ble_eq_true rfl⟩) (preS_rd [.long (x1 ^^^ re), .int rw] hP_r_2 hB) rfl rfl hl.1 rfl (lv_room (Nat.le_of_ble_eq_true rfl)) dX1_registerOf_17 ⟨Nat.zero_le _, Nat.zero_le _⟩) ?_
    refine lv_goto (tgt := 29) hx hb dX1_registerOf_20 (by decide) ?_
    exact W.lret (v := r_2) hx hb hr (fun t ht hW => ⟨_, rfl, Option.some.inj hf, ht⟩) (fun _ h => absurd h List.not_mem_nil) dX1_registerOf_29
/-! SumForms$Form.sumOf(J)J -/
abbrev rX1_sumOf : Room := { frames := 1, cells := 0, slots := 0, locals := 25 }
theorem mX1_sumOf_0 : Cond.fieldLink RX1 43 "SumForms$Form" "out" "Z" ∈ wsX1_sumOf := by decide +kernel
theorem mX1_sumOf_1 : Cond.fieldLink RX1 36 "SumForms$Form" "end" "J" ∈ wsX1_sumOf := by decide +kernel
theorem mX1_sumOf_2 : Cond.fieldLink RX1 25 "SumForms$Form" "width" "I" ∈ wsX1_sumOf := by decide +kernel
theorem inX1_sumOf_X1 : ∀ w ∈ u_ws RX1 TX1 8, w ∈ wsX1_sumOf := by decide +kernel
abbrev GX1_sumOf (p : Program) (l : Launch) (e : Env) (s : State) (m : MethodId) (args : Array Value) (below : List Frame) (meth : Method) (c : Code) (r0 : Int64) (fr : JFrame) : Prop := W p l e (headSpec wsX1_sumOf rX1_sumOf).room s m args below meth c s.heap [] 0 0 (MQ below (vp_Sl (fun r => r = r0)) args s 0 0 (fun _ => False)) fr
def fX1_sumOf (N : Nat) (rw : Int32) (re : Int64) (ro : Int32) (x1 : Int64) : Option (Int64) := (if ro = 0 then (some (x1 ^^^ re)) else ((fX1_turned N x1 rw).bind (fun r_2 => (some (r_2 ^^^ re)))))
set_option maxHeartbeats 4000000 in
set_option maxRecDepth 100000 in
theorem ctX1_sumOf (l : Launch) (D : va_G) (cy : Nat → ClassId) (N : Nat) (hfo hfa hun : Nat) (rw : Int32) (rg : Int64) (rs : Int64) (re : Int64) (ri : Int32) (ro : Int32) (x1 : Int64) (r0 : Int64) (hf : fX1_sumOf N rw re ro x1 = some r0) : Met l yX1_sumOf wsX1_sumOf rX1_sumOf (va_Pc [.ref hfo, .long x1] (Rd D cy [(hfo, .inr (1, [.int rw, .long rg, .long rs, .long re, .int ri, .int ro, .ref hfa, .ref hun]))])) (vp_Sl (fun r => r = r0)) 0 0 (fun _ => False) := by
  refine Met.ofW (cc := cX1_sumOf) (maxL := 3) (ret := (some .long)) (by decide) rfl ?_
  intro p e s m args below meth c s₁ B hml hv
  obtain ⟨rfl, hP, hB⟩ := hv
  have hx := B.exec
  have hb := B.bytes
  have hr := B.returns
  have hts := atoms_spec (ws := wsX1_sumOf) B.pre
  have hown : s.vm.findClass RX1 = some m.cls := findClass_of_methodNamed B.named
  have hlocks := B.notSynchronized
  have hK := hB.1
  have hN := hB.2
  have hl := lv_entry ([.ref hfo, .long x1]) (n := 3) (Nat.le_of_ble_eq_true rfl)
  rw [lg_entry_eq]
  generalize (lg_sl ([.ref hfo, .long x1]) ++ List.replicate (3 - (lg_sl ([.ref hfo, .long x1])).length) Slot.unset).toArray = ls at hl ⊢
  have hl : lv_has ls 3 [(0, .ref hfo), (1, .long x1)] := hl
  have E0 : En p m c cX1_sumOf 3 s ([.ref hfo, .long x1] : List Value).toArray wsX1_sumOf RX1 meth (some .long) D cy := ⟨⟨hx, hb, hml, hown, hts⟩, hr, hlocks, hB⟩
  unfold fX1_sumOf at hf
  refine lv_aload_n hx hb dX1_sumOf_0 rfl (lv_at hl 0 rfl) ?_
  refine va_get (D := D) (ci := 1) (v := .int ro) (C := RX1) (T := TX1) (N := 8) hx hb hts inX1_sumOf_X1 hown hK hP 0 rfl rfl 5 (by decide) (hts _ mX1_sumOf_0) (fun _ h9 => h9) rfl dX1_sumOf_1 ?_
  refine lv_if_eq (tgt := 18) hx hb dX1_sumOf_4 (by decide) (fun c_1 => ?_) (fun c_1 => ?_)
  · have hf := ite_t hf c_1
    refine lv_lload_n hx hb dX1_sumOf_18 rfl (lv_at hl 1 rfl) ?_
    refine lv_aload_n hx hb dX1_sumOf_19 rfl (lv_at hl 0 rfl) ?_
    refine va_get (D := D) (ci := 1) (v := .long re) (C := RX1) (T := TX1) (N := 8) hx hb hts inX1_sumOf_X1 hown hK hP 0 rfl rfl 3 (by decide) (hts _ mX1_sumOf_1) (fun _ h9 => h9) rfl dX1_sumOf_20 ?_
    refine lv_lxor hx hb dX1_sumOf_23 ?_
    exact W.lret (v := (x1 ^^^ re)) hx hb hr (fun t ht hW => ⟨_, rfl, Option.some.inj hf, ht⟩) (fun _ h => absurd h List.not_mem_nil) dX1_sumOf_24
  · have hf := ite_f hf c_1
    refine lv_lload_n hx hb dX1_sumOf_7 rfl (lv_at hl 1 rfl) ?_
    refine lv_aload_n hx hb dX1_sumOf_8 rfl (lv_at hl 0 rfl) ?_
    refine va_get (D := D) (ci := 1) (v := .int rw) (C := RX1) (T := TX1) (N := 8) hx hb hts inX1_sumOf_X1 hown hK hP 0 rfl rfl 0 (by decide) (hts _ mX1_sumOf_2) (fun _ h9 => h9) rfl dX1_sumOf_9 ?_
    obtain ⟨r_2, h_3, hf⟩ := bind_some hf
    have hP_r_2 : va_P D vwCl [] s.heap := hP.sub [] rfl
    refine cz_l (va_runS (As := [.long x1, .int rw]) (rest := []) ⟨hx, hb, hml, hown, hts⟩ (ctX1_turned l D cy N   x1 rw r_2 h_3) (va_cwS 2 hts gX1_sumOf_X1_turned rfl rfl rfl (by decide +kernel) ⟨Nat.le_of_ble_eq_true rfl, Nat.le_of_ble_eq_true rfl⟩) (preS_rd [.long x1, .int rw] hP_r_2 hB) rfl rfl hl.1 rfl (lv_room (Nat.le_of_ble_eq_true rfl)) dX1_sumOf_12 ⟨Nat.zero_le _, Nat.zero_le _⟩) ?_
    refine lv_goto (tgt := 19) hx hb dX1_sumOf_15 (by decide) ?_
    refine lv_aload_n hx hb dX1_sumOf_19 rfl (lv_at hl 0 rfl) ?_
    refine va_get (D := D) (ci := 1) (v := .long re) (C := RX1) (T := TX1) (N := 8) hx hb hts inX1_sumOf_X1 hown hK hP 0 rfl rfl 3 (by decide) (hts _ mX1_sumOf_1) (fun _ h9 => h9) rfl dX1_sumOf_20 ?_
    refine lv_lxor hx hb dX1_sumOf_23 ?_
    exact W.lret (v := (r_2 ^^^ re)) hx hb hr (fun t ht hW => ⟨_, rfl, Option.some.inj hf, ht⟩) (fun _ h => absurd h List.not_mem_nil) dX1_sumOf_24

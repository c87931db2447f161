/-! SumForms$Remainders.slotOf(J)I -/
abbrev rX3_slotOf : Room := { frames := 0, cells := 0, slots := 0, locals := 0 }
theorem mX3_slotOf_0 : Cond.constantLong RX3 30 (-7046029254386353131) ∈ wsX3_slotOf := by decide +kernel
theorem mX3_slotOf_1 : Cond.fieldLink RX3 15 "SumForms$Remainders" "slots" "[J" ∈ wsX3_slotOf := by decide +kernel
theorem inX3_slotOf_X3 : ∀ w ∈ u_ws RX3 TX3 3, w ∈ wsX3_slotOf := by decide +kernel
abbrev GX3_slotOf (p : Program) (l : Launch) (e : Env) (s : State) (m : MethodId) (args : Array Value) (below : List Frame) (meth : Method) (c : Code) (r0 : Int32) (fr : JFrame) : Prop := W p l e (headSpec wsX3_slotOf rX3_slotOf).room s m args below meth c s.heap [] 0 0 (MQ below (vp_Si (fun r => r = r0)) args s 0 0 (fun _ => False)) fr
def fX3_slotOf_B13 (N : Nat) (eS : Nat → Int64) (x1 : Int64) (self : Int32 → Int32 → Option (Int32)) (k : Int32 → Option (Int32)) (x3 : Int32) (x4 : Int32) : Option (Int32) := (if (512 : Int32) ≤ x4 then (k x3) else (if OOB x3 512 then none else (if (eS x3.toNatClampNeg) = (0 : Int64) then (k x3) else (if OOB x3 512 then none else (if (eS x3.toNatClampNeg) = x1 then (k x3) else (self ((x3 + (1 : Int32)) &&& (511 : Int32)) (x4 + (1 : Int32))))))))
def fX3_slotOf_L13 (N : Nat) (eS : Nat → Int64) (x1 : Int64) (k : Int32 → Option (Int32)) : Nat → Int32 → Int32 → Option (Int32)
  | 0 => fun _ _ => none
  | n + 1 => fun x3 x4 => fX3_slotOf_B13 N eS x1 (fX3_slotOf_L13 N eS x1 k n) k x3 x4
def fX3_slotOf (N : Nat) (eS : Nat → Int64) (x1 : Int64) : Option (Int32) := (fX3_slotOf_L13 N eS x1 (fun x3_6 => (some x3_6)) N ((lUsh (x1 * (-7046029254386353131 : Int64)) (55 : Int32)).toInt32) (0 : Int32))
set_option maxHeartbeats 4000000 in
set_option maxRecDepth 100000 in
theorem wX3_slotOf_B13 {p : Program} {l : Launch} {e : Env} {s : State} {m : MethodId} {args : Array Value} {below : List Frame} {meth : Method} {c : Code} {D : va_G} {cy : Nat → ClassId} {hre hrr hrs : Nat} {eN : Int32} {r0 : Int32} (E0 : En p m c cX3_slotOf 5 s args wsX3_slotOf RX3 meth (some .int) D cy) (N : Nat) (eS : Nat → Int64) (x1 : Int64) (hP : va_P D vwCl [(hre, .inr (2, [.ref hrr, .ref hrs, .int eN])), (hrs, .inl (cy 1, 512, .inr (.inl eS)))] s.heap) (self : Int32 → Int32 → Option (Int32)) (hself : ∀ (x3 : Int32) (x4 : Int32) (ls : Array Slot), lv_has ls 5 [(0, .ref hre), (1, .long x1), (3, .int x3), (4, .int x4)] → self x3 x4 = some r0 → GX3_slotOf p l e s m args below meth c r0 (F0 m 13 ls [])) (k : Int32 → Option (Int32)) (hk : ∀ (x3 : Int32) (ls : Array Slot), lv_has ls 5 [(3, .int x3)] → k x3 = some r0 → GX3_slotOf p l e s m args below meth c r0 (F0 m 57 ls [])) : ∀ (x3 : Int32) (x4 : Int32) (ls : Array Slot), lv_has ls 5 [(0, .ref hre), (1, .long x1), (3, .int x3), (4, .int x4)] → fX3_slotOf_B13 N eS x1 self k x3 x4 = some r0 → GX3_slotOf p l e s m args below meth c r0 (F0 m 13 ls []) := by
  obtain ⟨⟨hx, hb, hml, hown, hts⟩, hr, hlocks, hB⟩ := id E0
  have hK := hB.1
  have hN := hB.2
  intro x3 x4 ls hl hf
  unfold fX3_slotOf_B13 at hf
  refine lv_iload hx hb dX3_slotOf_13 (lv_at hl 3 rfl) ?_
  refine lv_sipush (v := (512 : Int32)) hx hb dX3_slotOf_15 (by decide) ?_
  refine lv_icmp_ge (tgt := 57) hx hb dX3_slotOf_18 (by decide) (fun c_1 => ?_) (fun c_1 => ?_)
  · have hf := ite_t hf c_1
    exact hk _ _ (lv_sub hl [2] rfl) hf
  · have hf := ite_f hf c_1
    refine lv_aload_n hx hb dX3_slotOf_21 rfl (lv_at hl 0 rfl) ?_
    refine va_get (D := D) (ci := 2) (v := .ref hrs) (C := RX3) (T := TX3) (N := 3) hx hb hts inX3_slotOf_X3 hown hK hP 0 rfl rfl 1 (by decide) (hts _ mX3_slotOf_1) (fun _ h9 => h9) rfl dX3_slotOf_22 ?_
    refine lv_iload_n hx hb dX3_slotOf_25 rfl (lv_at hl 2 rfl) ?_
    obtain ⟨b_2, hf⟩ := ite_n hf
    refine va_lald hx hb hK hP 1 1 rfl rfl b_2 dX3_slotOf_26 ?_
    refine lv_lconst (v := (0 : Int64)) hx hb dX3_slotOf_27 (by decide) ?_
    refine zz_lc_eq (tgt := 57) hx hb dX3_slotOf_28 dX3_slotOf_29 (by decide) (fun c_3 => ?_) (fun c_3 => ?_)
    · have hf := ite_t hf c_3
      exact hk _ _ (lv_sub hl [2] rfl) hf
    · have hf := ite_f hf c_3
      refine lv_aload_n hx hb dX3_slotOf_32 rfl (lv_at hl 0 rfl) ?_
      refine va_get (D := D) (ci := 2) (v := .ref hrs) (C := RX3) (T := TX3) (N := 3) hx hb hts inX3_slotOf_X3 hown hK hP 0 rfl rfl 1 (by decide) (hts _ mX3_slotOf_1) (fun _ h9 => h9) rfl dX3_slotOf_33 ?_
      refine lv_iload_n hx hb dX3_slotOf_36 rfl (lv_at hl 2 rfl) ?_
      obtain ⟨b_4, hf⟩ := ite_n hf
      refine va_lald hx hb hK hP 1 1 rfl rfl b_4 dX3_slotOf_37 ?_
      refine lv_lload_n hx hb dX3_slotOf_38 rfl (lv_at hl 1 rfl) ?_
      refine zz_lc_eq (tgt := 57) hx hb dX3_slotOf_39 dX3_slotOf_40 (by decide) (fun c_5 => ?_) (fun c_5 => ?_)
      · have hf := ite_t hf c_5
        exact hk _ _ (lv_sub hl [2] rfl) hf
      · have hf := ite_f hf c_5
        refine lv_iload_n hx hb dX3_slotOf_43 rfl (lv_at hl 2 rfl) ?_
        refine lv_iconst (v := (1 : Int32)) hx hb dX3_slotOf_44 (by decide) ?_
        refine lv_iadd hx hb dX3_slotOf_45 ?_
        refine lv_sipush (v := (511 : Int32)) hx hb dX3_slotOf_46 (by decide) ?_
        refine lv_iand hx hb dX3_slotOf_49 ?_
        refine lv_istore_n (lv' := [(3, .int ((x3 + (1 : Int32)) &&& (511 : Int32))), (0, .ref hre), (1, .long x1), (4, .int x4)]) hx hb dX3_slotOf_50 rfl hl (by decide) rfl (fun ls hl => ?_)
        refine lv_iinc (v := (x4 + (1 : Int32))) (lv' := [(4, .int (x4 + (1 : Int32))), (3, .int ((x3 + (1 : Int32)) &&& (511 : Int32))), (0, .ref hre), (1, .long x1)]) hx hb dX3_slotOf_51 hl (k := 3) rfl rfl (by decide) rfl (fun ls hl => ?_)
        refine lv_goto (tgt := 13) hx hb dX3_slotOf_54 (by decide) ?_
        exact hself _ _ _ (lv_sub hl [2, 3, 1, 0] rfl) hf
theorem wX3_slotOf_L13 {p : Program} {l : Launch} {e : Env} {s : State} {m : MethodId} {args : Array Value} {below : List Frame} {meth : Method} {c : Code} {D : va_G} {cy : Nat → ClassId} {hre hrr hrs : Nat} {eN : Int32} {r0 : Int32} (E0 : En p m c cX3_slotOf 5 s args wsX3_slotOf RX3 meth (some .int) D cy) (N : Nat) (eS : Nat → Int64) (x1 : Int64) (hP : va_P D vwCl [(hre, .inr (2, [.ref hrr, .ref hrs, .int eN])), (hrs, .inl (cy 1, 512, .inr (.inl eS)))] s.heap) (k : Int32 → Option (Int32)) (hk : ∀ (x3 : Int32) (ls : Array Slot), lv_has ls 5 [(3, .int x3)] → k x3 = some r0 → GX3_slotOf p l e s m args below meth c r0 (F0 m 57 ls [])) : ∀ (n : Nat), ∀ (x3 : Int32) (x4 : Int32) (ls : Array Slot), lv_has ls 5 [(0, .ref hre), (1, .long x1), (3, .int x3), (4, .int x4)] → fX3_slotOf_L13 N eS x1 k n x3 x4 = some r0 → GX3_slotOf p l e s m args below meth c r0 (F0 m 13 ls []) := by
  intro n
  induction n with
  | zero => intro x3 x4 ls hl hf; cases hf
  | succ n ih => exact wX3_slotOf_B13 E0 N eS x1 hP _ ih k hk
set_option maxHeartbeats 4000000 in
set_option maxRecDepth 100000 in
theorem ctX3_slotOf (l : Launch) (D : va_G) (cy : Nat → ClassId) (N : Nat) (hre hrr hrs : Nat) (eN : Int32) (eS : Nat → Int64) (x1 : Int64) (r0 : Int32) (hf : fX3_slotOf N eS x1 = some r0) : Met l yX3_slotOf wsX3_slotOf rX3_slotOf (va_Pc [.ref hre, .long x1] (Rd D cy [(hre, .inr (2, [.ref hrr, .ref hrs, .int eN])), (hrs, .inl (cy 1, 512, .inr (.inl eS)))])) (vp_Si (fun r => r = r0)) 0 0 (fun _ => False) := by
  refine Met.ofW (cc := cX3_slotOf) (maxL := 5) (ret := (some .int)) (by decide) rfl ?_
  intro p e s m args below meth c s₁ B hml hv
  obtain ⟨rfl, hP, hB⟩ := hv
  have hx := B.exec
  have hb := B.bytes
  have hr := B.returns
  have hts := atoms_spec (ws := wsX3_slotOf) B.pre
  have hown : s.vm.findClass RX3 = some m.cls := findClass_of_methodNamed B.named
  have hlocks := B.notSynchronized
  have hK := hB.1
  have hN := hB.2
  have hl := lv_entry ([.ref hre, .long x1]) (n := 5) (Nat.le_of_ble_eq_true rfl)
  rw [lg_entry_eq]
  generalize (lg_sl ([.ref hre, .long x1]) ++ List.replicate (5 - (lg_sl ([.ref hre, .long x1])).length) Slot.unset).toArray = ls at hl ⊢
  have hl : lv_has ls 5 [(0, .ref hre), (1, .long x1)] := hl
  have E0 : En p m c cX3_slotOf 5 s ([.ref hre, .long x1] : List Value).toArray wsX3_slotOf RX3 meth (some .int) D cy := ⟨⟨hx, hb, hml, hown, hts⟩, hr, hlocks, hB⟩
  unfold fX3_slotOf at hf
  refine lv_lload_n hx hb dX3_slotOf_0 rfl (lv_at hl 1 rfl) ?_
  refine lv_ldc2 (v := (-7046029254386353131 : Int64)) hx hb hown (hts _ mX3_slotOf_0) dX3_slotOf_1 ?_
  refine lv_lmul hx hb dX3_slotOf_4 ?_
  refine lv_bipush (v := (55 : Int32)) hx hb dX3_slotOf_5 (by decide) ?_
  refine zz_lushr hx hb dX3_slotOf_7 ?_
  refine lv_l2i (v := (lUsh (x1 * (-7046029254386353131 : Int64)) (55 : Int32)).toInt32) hx hb dX3_slotOf_8 rfl ?_
  refine lv_istore_n (lv' := [(3, .int ((lUsh (x1 * (-7046029254386353131 : Int64)) (55 : Int32)).toInt32)), (0, .ref hre), (1, .long x1)]) hx hb dX3_slotOf_9 rfl hl (by decide) rfl (fun ls hl => ?_)
  refine lv_iconst (v := (0 : Int32)) hx hb dX3_slotOf_10 (by decide) ?_
  refine lv_istore (lv' := [(4, .int (0 : Int32)), (3, .int ((lUsh (x1 * (-7046029254386353131 : Int64)) (55 : Int32)).toInt32)), (0, .ref hre), (1, .long x1)]) hx hb dX3_slotOf_11 hl (by decide) rfl (fun ls hl => ?_)
  refine wX3_slotOf_L13 E0 N eS x1 hP _ (fun x3_6 ls hl hf => ?_) N _ _ _ (lv_sub hl [2, 3, 1, 0] rfl) hf
  refine lv_iload_n hx hb dX3_slotOf_57 rfl (lv_at hl 0 rfl) ?_
  exact W.iret (v := x3_6) hx hb hr (fun t ht hW => ⟨_, rfl, Option.some.inj hf, ht⟩) (fun _ h => absurd h List.not_mem_nil) dX3_slotOf_58
/-! SumForms$Remainders.add(J)V -/
abbrev rX3_add : Room := { frames := 1, cells := 0, slots := 0, locals := 24 }
theorem mX3_add_0 : Cond.fieldLink RX3 18 "SumForms$Remainders" "size" "I" ∈ wsX3_add := by decide +kernel
theorem mX3_add_1 : Cond.fieldLink RX3 11 "SumForms$Remainders" "row" "[J" ∈ wsX3_add := by decide +kernel
theorem mX3_add_2 : Cond.fieldLink RX3 15 "SumForms$Remainders" "slots" "[J" ∈ wsX3_add := by decide +kernel
theorem inX3_add_X3 : ∀ w ∈ u_ws RX3 TX3 3, w ∈ wsX3_add := by decide +kernel
abbrev GX3_add (p : Program) (l : Launch) (e : Env) (s : State) (m : MethodId) (args : Array Value) (below : List Frame) (meth : Method) (c : Code) (D : va_G) (cy : Nat → ClassId) (A : Nat → Prop) (hre : Nat) (hrr : Nat) (hrs : Nat) (r0 : Int32 × (Nat → Int64) × (Nat → Int64)) (H : Heap) (locs : List Loc) (fr : JFrame) : Prop := W p l e (headSpec wsX3_add rX3_add).room s m args below meth c H locs 0 0 (MQ below (Qwv D A [(hre, .inr (2, [.ref hrr, .ref hrs, .int r0.1])), (hrr, .inl (cy 1, 200, .inr (.inl r0.2.1))), (hrs, .inl (cy 1, 512, .inr (.inl r0.2.2)))]) args s 0 0 A) fr
def fX3_add (N : Nat) (eN : Int32) (eR : Nat → Int64) (eS : Nat → Int64) (x1 : Int64) : Option (Int32 × (Nat → Int64) × (Nat → Int64)) := (if (200 : Int32) ≤ eN then (some (eN, eR, eS)) else (if OOB eN 200 then none else ((fX3_slotOf N eS x1).bind (fun r_7 => (if OOB r_7 512 then none else (some ((eN + (1 : Int32)), (vp_updL eR eN.toNatClampNeg x1), (vp_updL eS r_7.toNatClampNeg x1))))))))
set_option maxHeartbeats 4000000 in
set_option maxRecDepth 100000 in
theorem ctX3_add (l : Launch) (D : va_G) (cy : Nat → ClassId) (N : Nat) (hre hrr hrs : Nat) (sz : Nat) (eN : Int32) (eR : Nat → Int64) (eS : Nat → Int64) (x1 : Int64) (r0 : Int32 × (Nat → Int64) × (Nat → Int64)) (hf : fX3_add N eN eR eS x1 = some r0) : Met l yX3_add wsX3_add rX3_add (va_Pc [.ref hre, .long x1] (Wr D cy [(hre, .inr (2, [.ref hrr, .ref hrs, .int eN])), (hrr, .inl (cy 1, 200, .inr (.inl eR))), (hrs, .inl (cy 1, 512, .inr (.inl eS)))] sz)) (Qwv D (va_A [(hre, .inr (2, [.ref hrr, .ref hrs, .int eN])), (hrr, .inl (cy 1, 200, .inr (.inl eR))), (hrs, .inl (cy 1, 512, .inr (.inl eS)))] sz) [(hre, .inr (2, [.ref hrr, .ref hrs, .int r0.1])), (hrr, .inl (cy 1, 200, .inr (.inl r0.2.1))), (hrs, .inl (cy 1, 512, .inr (.inl r0.2.2)))]) 0 0 (va_A [(hre, .inr (2, [.ref hrr, .ref hrs, .int eN])), (hrr, .inl (cy 1, 200, .inr (.inl eR))), (hrs, .inl (cy 1, 512, .inr (.inl eS)))] sz) := by
  refine Met.ofW (cc := cX3_add) (maxL := 3) (ret := none) (by decide) rfl ?_
  intro p e s m args below meth c s₁ B hml hv
  obtain ⟨rfl, hsz, hP, hD0, hB⟩ := hv
  have hx := B.exec
  have hb := B.bytes
  have hr := B.returns
  have hts := atoms_spec (ws := wsX3_add) B.pre
  have hown : s.vm.findClass RX3 = some m.cls := findClass_of_methodNamed B.named
  have hlocks := B.notSynchronized
  have hK := hB.1
  have hN := hB.2
  subst hsz
  have hD := hD0.self (sz := s.heap.size)
  have hA : ∀ q : Nat, s.heap.size ≤ q → va_A [(hre, .inr (2, [.ref hrr, .ref hrs, .int eN])), (hrr, .inl (cy 1, 200, .inr (.inl eR))), (hrs, .inl (cy 1, 512, .inr (.inl eS)))] s.heap.size q := fun q h => Or.inr h
  generalize va_A [(hre, .inr (2, [.ref hrr, .ref hrs, .int eN])), (hrr, .inl (cy 1, 200, .inr (.inl eR))), (hrs, .inl (cy 1, 512, .inr (.inl eS)))] s.heap.size = A at hD hA ⊢
  have hS : va_S A s.heap s.heap [] := va_S.rf
  have hl := lv_entry ([.ref hre, .long x1]) (n := 3) (Nat.le_of_ble_eq_true rfl)
  rw [lg_entry_eq]
  generalize (lg_sl ([.ref hre, .long x1]) ++ List.replicate (3 - (lg_sl ([.ref hre, .long x1])).length) Slot.unset).toArray = ls at hl ⊢
  have hl : lv_has ls 3 [(0, .ref hre), (1, .long x1)] := hl
  have E0 : En p m c cX3_add 3 s ([.ref hre, .long x1] : List Value).toArray wsX3_add RX3 meth none D cy := ⟨⟨hx, hb, hml, hown, hts⟩, hr, hlocks, hB⟩
  unfold fX3_add at hf
  refine lv_aload_n hx hb dX3_add_0 rfl (lv_at hl 0 rfl) ?_
  refine va_get (D := D) (ci := 2) (v := .int eN) (C := RX3) (T := TX3) (N := 3) hx hb hts inX3_add_X3 hown hK hP 0 rfl rfl 2 (by decide) (hts _ mX3_add_0) (fun _ h9 => h9) rfl dX3_add_1 ?_
  refine lv_sipush (v := (200 : Int32)) hx hb dX3_add_4 (by decide) ?_
  refine lv_icmp_ge (tgt := 41) hx hb dX3_add_7 (by decide) (fun c_1 => ?_) (fun c_1 => ?_)
  · have hf := ite_t hf c_1
    cases hf
    exact W.vret hx hb hr (fun t ht hW => ⟨⟨(), rfl, trivial, by rw [ht]; exact hP, hD⟩, hS.F ht⟩) hS.2.2 dX3_add_41
  · have hf := ite_f hf c_1
    refine lv_aload_n hx hb dX3_add_10 rfl (lv_at hl 0 rfl) ?_
    refine va_get (D := D) (ci := 2) (v := .ref hrr) (C := RX3) (T := TX3) (N := 3) hx hb hts inX3_add_X3 hown hK hP 0 rfl rfl 0 (by decide) (hts _ mX3_add_1) (fun _ h9 => h9) rfl dX3_add_11 ?_
    refine lv_aload_n hx hb dX3_add_14 rfl (lv_at hl 0 rfl) ?_
    refine va_get (D := D) (ci := 2) (v := .int eN) (C := RX3) (T := TX3) (N := 3) hx hb hts inX3_add_X3 hown hK hP 0 rfl rfl 2 (by decide) (hts _ mX3_add_0) (fun _ h9 => h9) rfl dX3_add_15 ?_
    refine lv_lload_n hx hb dX3_add_18 rfl (lv_at hl 1 rfl) ?_
    obtain ⟨b_2, hf⟩ := ite_n hf
    refine va_last hx hb hK hP hD hS 1 1 rfl rfl b_2 dX3_add_19 (fun H3 locs4 hP hD hS => ?_)
    have hP : va_P D vwCl [(hre, .inr (2, [.ref hrr, .ref hrs, .int eN])), (hrr, .inl (cy 1, 200, .inr (.inl (vp_updL eR eN.toNatClampNeg x1)))), (hrs, .inl (cy 1, 512, .inr (.inl eS)))] H3 := hP
    have hD : va_D A [(hre, .inr (2, [.ref hrr, .ref hrs, .int eN])), (hrr, .inl (cy 1, 200, .inr (.inl (vp_updL eR eN.toNatClampNeg x1)))), (hrs, .inl (cy 1, 512, .inr (.inl eS)))] := hD
    refine lv_aload_n hx hb dX3_add_20 rfl (lv_at hl 0 rfl) ?_
    refine lv_dup hx hb dX3_add_21 rfl ?_
    refine va_get (D := D) (ci := 2) (v := .int eN) (C := RX3) (T := TX3) (N := 3) hx hb hts inX3_add_X3 hown hK hP 0 rfl rfl 2 (by decide) (hts _ mX3_add_0) (fun _ h9 => h9) rfl dX3_add_22 ?_
    refine lv_iconst (v := (1 : Int32)) hx hb dX3_add_25 (by decide) ?_
    refine lv_iadd hx hb dX3_add_26 ?_
    refine va_put (D := D) (ci := 2) (v := .int (eN + (1 : Int32))) (ty := .int) (C := RX3) (T := TX3) (N := 3) hx hb hts inX3_add_X3 tyX3 tyX3_ok nmX3 hown hK hP hD hS 0 rfl rfl 2 (by decide) (hts _ mX3_add_0) (fun _ h9 => h9) rfl (by decide +kernel) rfl rfl (Nat.le_of_ble_eq_true rfl) dX3_add_27 (fun H5 locs6 hP hD hS => ?_)
    have hP : va_P D vwCl [(hre, .inr (2, [.ref hrr, .ref hrs, .int (eN + (1 : Int32))])), (hrr, .inl (cy 1, 200, .inr (.inl (vp_updL eR eN.toNatClampNeg x1)))), (hrs, .inl (cy 1, 512, .inr (.inl eS)))] H5 := hP
    have hD : va_D A [(hre, .inr (2, [.ref hrr, .ref hrs, .int (eN + (1 : Int32))])), (hrr, .inl (cy 1, 200, .inr (.inl (vp_updL eR eN.toNatClampNeg x1)))), (hrs, .inl (cy 1, 512, .inr (.inl eS)))] := hD
    refine lv_aload_n hx hb dX3_add_30 rfl (lv_at hl 0 rfl) ?_
    refine va_get (D := D) (ci := 2) (v := .ref hrs) (C := RX3) (T := TX3) (N := 3) hx hb hts inX3_add_X3 hown hK hP 0 rfl rfl 1 (by decide) (hts _ mX3_add_2) (fun _ h9 => h9) rfl dX3_add_31 ?_
    refine lv_aload_n hx hb dX3_add_34 rfl (lv_at hl 0 rfl) ?_
    refine lv_lload_n hx hb dX3_add_35 rfl (lv_at hl 1 rfl) ?_
    obtain ⟨r_7, h_8, hf⟩ := bind_some hf
    have hP_r_7 : va_P D vwCl [(hre, .inr (2, [.ref hrr, .ref hrs, .int (eN + (1 : Int32))])), (hrs, .inl (cy 1, 512, .inr (.inl eS)))] H5 := hP.sub [0, 2] rfl
    refine cz_i (va_runV (As := [.long x1]) (rest := [.ref hrs]) ⟨hx, hb, hml, hown, hts⟩ (ctX3_slotOf l D cy N hre hrr hrs (eN + (1 : Int32)) eS x1 r_7 h_8) (cwV 1 hts gX3_add_X3_slotOf rfl rfl rfl (by decide +kernel) ⟨Nat.le_of_ble_eq_true rfl, Nat.le_of_ble_eq_true rfl⟩) (preV_rd (ci := 2) (q0 := 0) [.long x1] hP_r_7 hB rfl rfl) rfl rfl hl.1 rfl (lv_room (Nat.le_of_ble_eq_true rfl)) dX3_add_36 ⟨Nat.zero_le _, Nat.zero_le _⟩) ?_
    refine lv_lload_n hx hb dX3_add_39 rfl (lv_at hl 1 rfl) ?_
    obtain ⟨b_9, hf⟩ := ite_n hf
    refine va_last hx hb hK hP hD hS 2 1 rfl rfl b_9 dX3_add_40 (fun H10 locs11 hP hD hS => ?_)
    have hP : va_P D vwCl [(hre, .inr (2, [.ref hrr, .ref hrs, .int (eN + (1 : Int32))])), (hrr, .inl (cy 1, 200, .inr (.inl (vp_updL eR eN.toNatClampNeg x1)))), (hrs, .inl (cy 1, 512, .inr (.inl (vp_updL eS r_7.toNatClampNeg x1))))] H10 := hP
    have hD : va_D A [(hre, .inr (2, [.ref hrr, .ref hrs, .int (eN + (1 : Int32))])), (hrr, .inl (cy 1, 200, .inr (.inl (vp_updL eR eN.toNatClampNeg x1)))), (hrs, .inl (cy 1, 512, .inr (.inl (vp_updL eS r_7.toNatClampNeg x1))))] := hD
    cases hf
    exact W.vret hx hb hr (fun t ht hW => ⟨⟨(), rfl, trivial, by rw [ht]; exact hP, hD⟩, hS.F ht⟩) hS.2.2 dX3_add_41
/-! SumForms$Remainders.clear()V -/
abbrev rX3_clear : Room := { frames := 0, cells := 0, slots := 0, locals := 0 }
theorem mX3_clear_0 : Cond.fieldLink RX3 18 "SumForms$Remainders" "size" "I" ∈ wsX3_clear := by decide +kernel
theorem mX3_clear_1 : Cond.fieldLink RX3 15 "SumForms$Remainders" "slots" "[J" ∈ wsX3_clear := by decide +kernel
theorem inX3_clear_X3 : ∀ w ∈ u_ws RX3 TX3 3, w ∈ wsX3_clear := by decide +kernel
abbrev GX3_clear (p : Program) (l : Launch) (e : Env) (s : State) (m : MethodId) (args : Array Value) (below : List Frame) (meth : Method) (c : Code) (D : va_G) (cy : Nat → ClassId) (A : Nat → Prop) (hre : Nat) (hrr : Nat) (hrs : Nat) (r0 : Int32 × (Nat → Int64)) (H : Heap) (locs : List Loc) (fr : JFrame) : Prop := W p l e (headSpec wsX3_clear rX3_clear).room s m args below meth c H locs 0 0 (MQ below (Qwv D A [(hre, .inr (2, [.ref hrr, .ref hrs, .int r0.1])), (hrs, .inl (cy 1, 512, .inr (.inl r0.2)))]) args s 0 0 A) fr
def fX3_clear_B7 (N : Nat)  (self : Int32 → (Nat → Int64) → Int32 → Option (Int32 × (Nat → Int64))) (k : Int32 → (Nat → Int64) → Option (Int32 × (Nat → Int64))) (eN : Int32) (eS : Nat → Int64) (x1 : Int32) : Option (Int32 × (Nat → Int64)) := (if (512 : Int32) ≤ x1 then (k eN eS) else (if OOB x1 512 then none else (self eN (vp_updL eS x1.toNatClampNeg (0 : Int64)) (x1 + (1 : Int32)))))
def fX3_clear_L7 (N : Nat)  (k : Int32 → (Nat → Int64) → Option (Int32 × (Nat → Int64))) : Nat → Int32 → (Nat → Int64) → Int32 → Option (Int32 × (Nat → Int64))
  | 0 => fun _ _ _ => none
  | n + 1 => fun eN eS x1 => fX3_clear_B7 N (fX3_clear_L7 N k n) k eN eS x1
def fX3_clear (N : Nat) (eN : Int32) (eS : Nat → Int64)  : Option (Int32 × (Nat → Int64)) := (fX3_clear_L7 N (fun eN_7 eS_8 => (some (eN_7, eS_8))) N (0 : Int32) eS (0 : Int32))
set_option maxHeartbeats 4000000 in
set_option maxRecDepth 100000 in
theorem wX3_clear_B7 {p : Program} {l : Launch} {e : Env} {s : State} {m : MethodId} {args : Array Value} {below : List Frame} {meth : Method} {c : Code} {D : va_G} {cy : Nat → ClassId} {A : Nat → Prop} {hre hrr hrs : Nat} {r0 : Int32 × (Nat → Int64)} (E0 : En p m c cX3_clear 2 s args wsX3_clear RX3 meth none D cy) (N : Nat)  (hA : ∀ q, s.heap.size ≤ q → A q) (self : Int32 → (Nat → Int64) → Int32 → Option (Int32 × (Nat → Int64))) (hself : ∀ (eN : Int32) (eS : Nat → Int64) (x1 : Int32) (H : Heap) (locs : List Loc) (ls : Array Slot), va_P D vwCl [(hre, .inr (2, [.ref hrr, .ref hrs, .int eN])), (hrs, .inl (cy 1, 512, .inr (.inl eS)))] H → va_D A [(hre, .inr (2, [.ref hrr, .ref hrs, .int eN])), (hrs, .inl (cy 1, 512, .inr (.inl eS)))] → va_S A s.heap H locs → lv_has ls 2 [(0, .ref hre), (1, .int x1)] → self eN eS x1 = some r0 → GX3_clear p l e s m args below meth c D cy A hre hrr hrs  r0 H locs (F0 m 7 ls [])) (k : Int32 → (Nat → Int64) → Option (Int32 × (Nat → Int64))) (hk : ∀ (eN : Int32) (eS : Nat → Int64) (H : Heap) (locs : List Loc) (ls : Array Slot), va_P D vwCl [(hre, .inr (2, [.ref hrr, .ref hrs, .int eN])), (hrs, .inl (cy 1, 512, .inr (.inl eS)))] H → va_D A [(hre, .inr (2, [.ref hrr, .ref hrs, .int eN])), (hrs, .inl (cy 1, 512, .inr (.inl eS)))] → va_S A s.heap H locs → lv_has ls 2 [] → k eN eS = some r0 → GX3_clear p l e s m args below meth c D cy A hre hrr hrs  r0 H locs (F0 m 27 ls [])) : ∀ (eN : Int32) (eS : Nat → Int64) (x1 : Int32) (H : Heap) (locs : List Loc) (ls : Array Slot), va_P D vwCl [(hre, .inr (2, [.ref hrr, .ref hrs, .int eN])), (hrs, .inl (cy 1, 512, .inr (.inl eS)))] H → va_D A [(hre, .inr (2, [.ref hrr, .ref hrs, .int eN])), (hrs, .inl (cy 1, 512, .inr (.inl eS)))] → va_S A s.heap H locs → lv_has ls 2 [(0, .ref hre), (1, .int x1)] → fX3_clear_B7 N self k eN eS x1 = some r0 → GX3_clear p l e s m args below meth c D cy A hre hrr hrs  r0 H locs (F0 m 7 ls []) := by
  obtain ⟨⟨hx, hb, hml, hown, hts⟩, hr, hlocks, hB⟩ := id E0
  have hK := hB.1
  have hN := hB.2
  intro eN eS x1 H locs ls hP hD hS hl hf
  unfold fX3_clear_B7 at hf
  refine lv_iload_n hx hb dX3_clear_7 rfl (lv_at hl 1 rfl) ?_
  refine lv_sipush (v := (512 : Int32)) hx hb dX3_clear_8 (by decide) ?_
  refine lv_icmp_ge (tgt := 27) hx hb dX3_clear_11 (by decide) (fun c_3 => ?_) (fun c_3 => ?_)
  · have hf := ite_t hf c_3
    exact hk _ _ _ _ _ hP hD hS (lv_sub hl [] rfl) hf
  · have hf := ite_f hf c_3
    refine lv_aload_n hx hb dX3_clear_14 rfl (lv_at hl 0 rfl) ?_
    refine va_get (D := D) (ci := 2) (v := .ref hrs) (C := RX3) (T := TX3) (N := 3) hx hb hts inX3_clear_X3 hown hK hP 0 rfl rfl 1 (by decide) (hts _ mX3_clear_1) (fun _ h9 => h9) rfl dX3_clear_15 ?_
    refine lv_iload_n hx hb dX3_clear_18 rfl (lv_at hl 1 rfl) ?_
    refine lv_lconst (v := (0 : Int64)) hx hb dX3_clear_19 (by decide) ?_
    obtain ⟨b_4, hf⟩ := ite_n hf
    refine va_last hx hb hK hP hD hS 1 1 rfl rfl b_4 dX3_clear_20 (fun H5 locs6 hP hD hS => ?_)
    have hP : va_P D vwCl [(hre, .inr (2, [.ref hrr, .ref hrs, .int eN])), (hrs, .inl (cy 1, 512, .inr (.inl (vp_updL eS x1.toNatClampNeg (0 : Int64)))))] H5 := hP
    have hD : va_D A [(hre, .inr (2, [.ref hrr, .ref hrs, .int eN])), (hrs, .inl (cy 1, 512, .inr (.inl (vp_updL eS x1.toNatClampNeg (0 : Int64)))))] := hD
    refine lv_iinc (v := (x1 + (1 : Int32))) (lv' := [(1, .int (x1 + (1 : Int32))), (0, .ref hre)]) hx hb dX3_clear_21 hl (k := 1) rfl rfl (by decide) rfl (fun ls hl => ?_)
    refine lv_goto (tgt := 7) hx hb dX3_clear_24 (by decide) ?_
    exact hself _ _ _ _ _ _ hP hD hS (lv_sub hl [1, 0] rfl) hf
theorem wX3_clear_L7 {p : Program} {l : Launch} {e : Env} {s : State} {m : MethodId} {args : Array Value} {below : List Frame} {meth : Method} {c : Code} {D : va_G} {cy : Nat → ClassId} {A : Nat → Prop} {hre hrr hrs : Nat} {r0 : Int32 × (Nat → Int64)} (E0 : En p m c cX3_clear 2 s args wsX3_clear RX3 meth none D cy) (N : Nat)  (hA : ∀ q, s.heap.size ≤ q → A q) (k : Int32 → (Nat → Int64) → Option (Int32 × (Nat → Int64))) (hk : ∀ (eN : Int32) (eS : Nat → Int64) (H : Heap) (locs : List Loc) (ls : Array Slot), va_P D vwCl [(hre, .inr (2, [.ref hrr, .ref hrs, .int eN])), (hrs, .inl (cy 1, 512, .inr (.inl eS)))] H → va_D A [(hre, .inr (2, [.ref hrr, .ref hrs, .int eN])), (hrs, .inl (cy 1, 512, .inr (.inl eS)))] → va_S A s.heap H locs → lv_has ls 2 [] → k eN eS = some r0 → GX3_clear p l e s m args below meth c D cy A hre hrr hrs  r0 H locs (F0 m 27 ls [])) : ∀ (n : Nat), ∀ (eN : Int32) (eS : Nat → Int64) (x1 : Int32) (H : Heap) (locs : List Loc) (ls : Array Slot), va_P D vwCl [(hre, .inr (2, [.ref hrr, .ref hrs, .int eN])), (hrs, .inl (cy 1, 512, .inr (.inl eS)))] H → va_D A [(hre, .inr (2, [.ref hrr, .ref hrs, .int eN])), (hrs, .inl (cy 1, 512, .inr (.inl eS)))] → va_S A s.heap H locs → lv_has ls 2 [(0, .ref hre), (1, .int x1)] → fX3_clear_L7 N k n eN eS x1 = some r0 → GX3_clear p l e s m args below meth c D cy A hre hrr hrs  r0 H locs (F0 m 7 ls []) := by
  intro n
  induction n with
  | zero => intro eN eS x1 H locs ls hP hD hS hl hf; cases hf
  | succ n ih => exact wX3_clear_B7 E0 N hA _ ih k hk
set_option maxHeartbeats 4000000 in
set_option maxRecDepth 100000 in
theorem ctX3_clear (l : Launch) (D : va_G) (cy : Nat → ClassId) (N : Nat) (hre hrr hrs : Nat) (sz : Nat) (eN : Int32) (eS : Nat → Int64)  (r0 : Int32 × (Nat → Int64)) (hf : fX3_clear N eN eS = some r0) : Met l yX3_clear wsX3_clear rX3_clear (va_Pc [.ref hre] (Wr D cy [(hre, .inr (2, [.ref hrr, .ref hrs, .int eN])), (hrs, .inl (cy 1, 512, .inr (.inl eS)))] sz)) (Qwv D (va_A [(hre, .inr (2, [.ref hrr, .ref hrs, .int eN])), (hrs, .inl (cy 1, 512, .inr (.inl eS)))] sz) [(hre, .inr (2, [.ref hrr, .ref hrs, .int r0.1])), (hrs, .inl (cy 1, 512, .inr (.inl r0.2)))]) 0 0 (va_A [(hre, .inr (2, [.ref hrr, .ref hrs, .int eN])), (hrs, .inl (cy 1, 512, .inr (.inl eS)))] sz) := by
  refine Met.ofW (cc := cX3_clear) (maxL := 2) (ret := none) (by decide) rfl ?_
  intro p e s m args below meth c s₁ B hml hv
  obtain ⟨rfl, hsz, hP, hD0, hB⟩ := hv
  have hx := B.exec
  have hb := B.bytes
  have hr := B.returns
  have hts := atoms_spec (ws := wsX3_clear) B.pre
  have hown : s.vm.findClass RX3 = some m.cls := findClass_of_methodNamed B.named
  have hlocks := B.notSynchronized
  have hK := hB.1
  have hN := hB.2
  subst hsz
  have hD := hD0.self (sz := s.heap.size)
  have hA : ∀ q : Nat, s.heap.size ≤ q → va_A [(hre, .inr (2, [.ref hrr, .ref hrs, .int eN])), (hrs, .inl (cy 1, 512, .inr (.inl eS)))] s.heap.size q := fun q h => Or.inr h
  generalize va_A [(hre, .inr (2, [.ref hrr, .ref hrs, .int eN])), (hrs, .inl (cy 1, 512, .inr (.inl eS)))] s.heap.size = A at hD hA ⊢
  have hS : va_S A s.heap s.heap [] := va_S.rf
  have hl := lv_entry ([.ref hre]) (n := 2) (Nat.le_of_ble_eq_true rfl)
  rw [lg_entry_eq]
  generalize (lg_sl ([.ref hre]) ++ List.replicate (2 - (lg_sl ([.ref hre])).length) Slot.unset).toArray = ls at hl ⊢
  have hl : lv_has ls 2 [(0, .ref hre)] := hl
  have E0 : En p m c cX3_clear 2 s ([.ref hre] : List Value).toArray wsX3_clear RX3 meth none D cy := ⟨⟨hx, hb, hml, hown, hts⟩, hr, hlocks, hB⟩
  unfold fX3_clear at hf
  refine lv_aload_n hx hb dX3_clear_0 rfl (lv_at hl 0 rfl) ?_
  refine lv_iconst (v := (0 : Int32)) hx hb dX3_clear_1 (by decide) ?_
  refine va_put (D := D) (ci := 2) (v := .int (0 : Int32)) (ty := .int) (C := RX3) (T := TX3) (N := 3) hx hb hts inX3_clear_X3 tyX3 tyX3_ok nmX3 hown hK hP hD hS 0 rfl rfl 2 (by decide) (hts _ mX3_clear_0) (fun _ h9 => h9) rfl (by decide +kernel) rfl rfl (Nat.le_of_ble_eq_true rfl) dX3_clear_2 (fun H1 locs2 hP hD hS => ?_)
  have hP : va_P D vwCl [(hre, .inr (2, [.ref hrr, .ref hrs, .int (0 : Int32)])), (hrs, .inl (cy 1, 512, .inr (.inl eS)))] H1 := hP
  have hD : va_D A [(hre, .inr (2, [.ref hrr, .ref hrs, .int (0 : Int32)])), (hrs, .inl (cy 1, 512, .inr (.inl eS)))] := hD
  refine lv_iconst (v := (0 : Int32)) hx hb dX3_clear_5 (by decide) ?_
  refine lv_istore_n (lv' := [(1, .int (0 : Int32)), (0, .ref hre)]) hx hb dX3_clear_6 rfl hl (by decide) rfl (fun ls hl => ?_)
  refine wX3_clear_L7 E0 N  hA _ (fun eN_7 eS_8 H9 locs10 ls hP hD hS hl hf => ?_) N _ _ _ _ _ _ hP hD hS (lv_sub hl [1, 0] rfl) hf
  cases hf
  exact W.vret hx hb hr (fun t ht hW => ⟨⟨(), rfl, trivial, by rw [ht]; exact hP, hD⟩, hS.F ht⟩) hS.2.2 dX3_clear_27
/-! SumForms$Remainders.has(J)Z -/
abbrev rX3_has : Room := { frames := 1, cells := 0, slots := 0, locals := 24 }
theorem mX3_has_0 : Cond.fieldLink RX3 15 "SumForms$Remainders" "slots" "[J" ∈ wsX3_has := by decide +kernel
theorem inX3_has_X3 : ∀ w ∈ u_ws RX3 TX3 3, w ∈ wsX3_has := by decide +kernel
abbrev GX3_has (p : Program) (l : Launch) (e : Env) (s : State) (m : MethodId) (args : Array Value) (below : List Frame) (meth : Method) (c : Code) (r0 : Int32) (fr : JFrame) : Prop := W p l e (headSpec wsX3_has rX3_has).room s m args below meth c s.heap [] 0 0 (MQ below (vp_Si (fun r => r = r0)) args s 0 0 (fun _ => False)) fr
def fX3_has (N : Nat) (eS : Nat → Int64) (x1 : Int64) : Option (Int32) := (if x1 = (0 : Int64) then (some (0 : Int32)) else ((fX3_slotOf N eS x1).bind (fun r_2 => (if OOB r_2 512 then none else (if (eS r_2.toNatClampNeg) = x1 then (some (1 : Int32)) else (some (0 : Int32)))))))
set_option maxHeartbeats 4000000 in
set_option maxRecDepth 100000 in
theorem ctX3_has (l : Launch) (D : va_G) (cy : Nat → ClassId) (N : Nat) (hre hrr hrs : Nat) (eN : Int32) (eS : Nat → Int64) (x1 : Int64) (r0 : Int32) (hf : fX3_has N eS x1 = some r0) : Met l yX3_has wsX3_has rX3_has (va_Pc [.ref hre, .long x1] (Rd D cy [(hre, .inr (2, [.ref hrr, .ref hrs, .int eN])), (hrs, .inl (cy 1, 512, .inr (.inl eS)))])) (vp_Si (fun r => r = r0)) 0 0 (fun _ => False) := by
  refine Met.ofW (cc := cX3_has) (maxL := 3) (ret := (some .boolean)) (by decide) rfl ?_
  intro p e s m args below meth c s₁ B hml hv
  obtain ⟨rfl, hP, hB⟩ := hv
  have hx := B.exec
  have hb := B.bytes
  have hr := B.returns
  have hts := atoms_spec (ws := wsX3_has) B.pre
  have hown : s.vm.findClass RX3 = some m.cls := findClass_of_methodNamed B.named
  have hlocks := B.notSynchronized
  have hK := hB.1
  have hN := hB.2
  have hl := lv_entry ([.ref hre, .long x1]) (n := 3) (Nat.le_of_ble_eq_true rfl)
  rw [lg_entry_eq]
  generalize (lg_sl ([.ref hre, .long x1]) ++ List.replicate (3 - (lg_sl ([.ref hre, .long x1])).length) Slot.unset).toArray = ls at hl ⊢
  have hl : lv_has ls 3 [(0, .ref hre), (1, .long x1)] := hl
  have E0 : En p m c cX3_has 3 s ([.ref hre, .long x1] : List Value).toArray wsX3_has RX3 meth (some .boolean) D cy := ⟨⟨hx, hb, hml, hown, hts⟩, hr, hlocks, hB⟩
  unfold fX3_has at hf
  refine lv_lload_n hx hb dX3_has_0 rfl (lv_at hl 1 rfl) ?_
  refine lv_lconst (v := (0 : Int64)) hx hb dX3_has_1 (by decide) ?_
  refine zz_lc_eq (tgt := 25) hx hb dX3_has_2 dX3_has_3 (by decide) (fun c_1 => ?_) (fun c_1 => ?_)
  · have hf := ite_t hf c_1
    refine lv_iconst (v := (0 : Int32)) hx hb dX3_has_25 (by decide) ?_
    exact W.zret (v := (0 : Int32)) hx hb hr rfl (fun t ht hW => ⟨_, rfl, Option.some.inj hf, ht⟩) (fun _ h => absurd h List.not_mem_nil) dX3_has_26
  · have hf := ite_f hf c_1
    refine lv_aload_n hx hb dX3_has_6 rfl (lv_at hl 0 rfl) ?_
    refine va_get (D := D) (ci := 2) (v := .ref hrs) (C := RX3) (T := TX3) (N := 3) hx hb hts inX3_has_X3 hown hK hP 0 rfl rfl 1 (by decide) (hts _ mX3_has_0) (fun _ h9 => h9) rfl dX3_has_7 ?_
    refine lv_aload_n hx hb dX3_has_10 rfl (lv_at hl 0 rfl) ?_
    refine lv_lload_n hx hb dX3_has_11 rfl (lv_at hl 1 rfl) ?_
    obtain ⟨r_2, h_3, hf⟩ := bind_some hf
    have hP_r_2 : va_P D vwCl [(hre, .inr (2, [.ref hrr, .ref hrs, .int eN])), (hrs, .inl (cy 1, 512, .inr (.inl eS)))] s.heap := hP.sub [0, 1] rfl
    refine cz_i (va_runV (As := [.long x1]) (rest := [.ref hrs]) ⟨hx, hb, hml, hown, hts⟩ (ctX3_slotOf l D cy N hre hrr hrs eN eS x1 r_2 h_3) (cwV 1 hts gX3_has_X3_slotOf rfl rfl rfl (by decide +kernel) ⟨Nat.le_of_ble_eq_true rfl, Nat.le_of_ble_eq_true rfl⟩) (preV_rd (ci := 2) (q0 := 0) [.long x1] hP_r_2 hB rfl rfl) rfl rfl hl.1 rfl (lv_room (Nat.le_of_ble_eq_true rfl)) dX3_has_12 ⟨Nat.zero_le _, Nat.zero_le _⟩) ?_
    obtain ⟨b_4, hf⟩ := ite_n hf
    refine va_lald hx hb hK hP 1 1 rfl rfl b_4 dX3_has_15 ?_
    refine lv_lload_n hx hb dX3_has_16 rfl (lv_at hl 1 rfl) ?_
    refine zz_lc_ne (tgt := 25) hx hb dX3_has_17 dX3_has_18 (by decide) (fun c_5 => ?_) (fun c_5 => ?_)
    · have hf := ite_f hf c_5
      refine lv_iconst (v := (0 : Int32)) hx hb dX3_has_25 (by decide) ?_
      exact W.zret (v := (0 : Int32)) hx hb hr rfl (fun t ht hW => ⟨_, rfl, Option.some.inj hf, ht⟩) (fun _ h => absurd h List.not_mem_nil) dX3_has_26
    · have hf := ite_t hf c_5
      refine lv_iconst (v := (1 : Int32)) hx hb dX3_has_21 (by decide) ?_
      refine lv_goto (tgt := 26) hx hb dX3_has_22 (by decide) ?_
      exact W.zret (v := (1 : Int32)) hx hb hr rfl (fun t ht hW => ⟨_, rfl, Option.some.inj hf, ht⟩) (fun _ h => absurd h List.not_mem_nil) dX3_has_26
/-! SumForms$Remainders.hasTwo(J)Z -/
abbrev rX3_hasTwo : Room := { frames := 2, cells := 0, slots := 0, locals := 46 }
theorem mX3_hasTwo_0 : Cond.fieldLink RX3 18 "SumForms$Remainders" "size" "I" ∈ wsX3_hasTwo := by decide +kernel
theorem mX3_hasTwo_1 : Cond.fieldLink RX3 11 "SumForms$Remainders" "row" "[J" ∈ wsX3_hasTwo := by decide +kernel
theorem inX3_hasTwo_X3 : ∀ w ∈ u_ws RX3 TX3 3, w ∈ wsX3_hasTwo := by decide +kernel
abbrev GX3_hasTwo (p : Program) (l : Launch) (e : Env) (s : State) (m : MethodId) (args : Array Value) (below : List Frame) (meth : Method) (c : Code) (r0 : Int32) (fr : JFrame) : Prop := W p l e (headSpec wsX3_hasTwo rX3_hasTwo).room s m args below meth c s.heap [] 0 0 (MQ below (vp_Si (fun r => r = r0)) args s 0 0 (fun _ => False)) fr
def fX3_hasTwo_B2 (N : Nat) (eN : Int32) (eR : Nat → Int64) (eS : Nat → Int64) (x1 : Int64) (self : Int32 → Option (Int32)) (k : Option (Int32)) (x3 : Int32) : Option (Int32) := (if eN ≤ x3 then k else (if OOB x3 200 then none else ((fX3_has N eS (x1 ^^^ (eR x3.toNatClampNeg))).bind (fun r_3 => (if r_3 = 0 then (self (x3 + (1 : Int32))) else (some (1 : Int32)))))))
def fX3_hasTwo_L2 (N : Nat) (eN : Int32) (eR : Nat → Int64) (eS : Nat → Int64) (x1 : Int64) (k : Option (Int32)) : Nat → Int32 → Option (Int32)
  | 0 => fun _ => none
  | n + 1 => fun x3 => fX3_hasTwo_B2 N eN eR eS x1 (fX3_hasTwo_L2 N eN eR eS x1 k n) k x3
def fX3_hasTwo (N : Nat) (eN : Int32) (eR : Nat → Int64) (eS : Nat → Int64) (x1 : Int64) : Option (Int32) := (fX3_hasTwo_L2 N eN eR eS x1 (some (0 : Int32)) N (0 : Int32))
set_option maxHeartbeats 4000000 in
set_option maxRecDepth 100000 in
theorem wX3_hasTwo_B2 {p : Program} {l : Launch} {e : Env} {s : State} {m : MethodId} {args : Array Value} {below : List Frame} {meth : Method} {c : Code} {D : va_G} {cy : Nat → ClassId} {hre hrr hrs : Nat} {r0 : Int32} (E0 : En p m c cX3_hasTwo 4 s args wsX3_hasTwo RX3 meth (some .boolean) D cy) (N : Nat) (eN : Int32) (eR : Nat → Int64) (eS : Nat → Int64) (x1 : Int64) (hP : va_P D vwCl [(hre, .inr (2, [.ref hrr, .ref hrs, .int eN])), (hrr, .inl (cy 1, 200, .inr (.inl eR))), (hrs, .inl (cy 1, 512, .inr (.inl eS)))] s.heap) (self : Int32 → Option (Int32)) (hself : ∀ (x3 : Int32) (ls : Array Slot), lv_has ls 4 [(0, .ref hre), (1, .long x1), (3, .int x3)] → self x3 = some r0 → GX3_hasTwo p l e s m args below meth c r0 (F0 m 2 ls [])) (k : Option (Int32)) (hk : ∀ (ls : Array Slot), lv_has ls 4 [] → k = some r0 → GX3_hasTwo p l e s m args below meth c r0 (F0 m 33 ls [])) : ∀ (x3 : Int32) (ls : Array Slot), lv_has ls 4 [(0, .ref hre), (1, .long x1), (3, .int x3)] → fX3_hasTwo_B2 N eN eR eS x1 self k x3 = some r0 → GX3_hasTwo p l e s m args below meth c r0 (F0 m 2 ls []) := by
  obtain ⟨⟨hx, hb, hml, hown, hts⟩, hr, hlocks, hB⟩ := id E0
  have hK := hB.1
  have hN := hB.2
  intro x3 ls hl hf
  unfold fX3_hasTwo_B2 at hf
  refine lv_iload_n hx hb dX3_hasTwo_2 rfl (lv_at hl 2 rfl) ?_
  refine lv_aload_n hx hb dX3_hasTwo_3 rfl (lv_at hl 0 rfl) ?_
  refine va_get (D := D) (ci := 2) (v := .int eN) (C := RX3) (T := TX3) (N := 3) hx hb hts inX3_hasTwo_X3 hown hK hP 0 rfl rfl 2 (by decide) (hts _ mX3_hasTwo_0) (fun _ h9 => h9) rfl dX3_hasTwo_4 ?_
  refine lv_icmp_ge (tgt := 33) hx hb dX3_hasTwo_7 (by decide) (fun c_1 => ?_) (fun c_1 => ?_)
  · have hf := ite_t hf c_1
    exact hk  _ (lv_sub hl [] rfl) hf
  · have hf := ite_f hf c_1
    refine lv_aload_n hx hb dX3_hasTwo_10 rfl (lv_at hl 0 rfl) ?_
    refine lv_lload_n hx hb dX3_hasTwo_11 rfl (lv_at hl 1 rfl) ?_
    refine lv_aload_n hx hb dX3_hasTwo_12 rfl (lv_at hl 0 rfl) ?_
    refine va_get (D := D) (ci := 2) (v := .ref hrr) (C := RX3) (T := TX3) (N := 3) hx hb hts inX3_hasTwo_X3 hown hK hP 0 rfl rfl 0 (by decide) (hts _ mX3_hasTwo_1) (fun _ h9 => h9) rfl dX3_hasTwo_13 ?_
    refine lv_iload_n hx hb dX3_hasTwo_16 rfl (lv_at hl 2 rfl) ?_
    obtain ⟨b_2, hf⟩ := ite_n hf
    refine va_lald hx hb hK hP 1 1 rfl rfl b_2 dX3_hasTwo_17 ?_
    refine lv_lxor hx hb dX3_hasTwo_18 ?_
    obtain ⟨r_3, h_4, hf⟩ := bind_some hf
    have hP_r_3 : va_P D vwCl [(hre, .inr (2, [.ref hrr, .ref hrs, .int eN])), (hrs, .inl (cy 1, 512, .inr (.inl eS)))] s.heap := hP.sub [0, 2] rfl
    refine cz_i (va_runV (As := [.long (x1 ^^^ (eR x3.toNatClampNeg))]) (rest := []) ⟨hx, hb, hml, hown, hts⟩ (ctX3_has l D cy N hre hrr hrs eN eS (x1 ^^^ (eR x3.toNatClampNeg)) r_3 h_4) (cwV 1 hts gX3_hasTwo_X3_has rfl rfl rfl (by decide +kernel) ⟨Nat.le_of_ble_eq_true rfl, Nat.le_of_ble_eq_true rfl⟩) (preV_rd (ci := 2) (q0 := 0) [.long (x1 ^^^ (eR x3.toNatClampNeg))] hP_r_3 hB rfl rfl) rfl rfl hl.1 rfl (lv_room (Nat.le_of_ble_eq_true rfl)) dX3_hasTwo_19 ⟨Nat.zero_le _, Nat.zero_le _⟩) ?_
    refine lv_if_eq (tgt := 27) hx hb dX3_hasTwo_22 (by decide) (fun c_5 => ?_) (fun c_5 => ?_)
    · have hf := ite_t hf c_5
      refine lv_iinc (v := (x3 + (1 : Int32))) (lv' := [(3, .int (x3 + (1 : Int32))), (0, .ref hre), (1, .long x1)]) hx hb dX3_hasTwo_27 hl (k := 2) rfl rfl (by decide) rfl (fun ls hl => ?_)
      refine lv_goto (tgt := 2) hx hb dX3_hasTwo_30 (by decide) ?_
      exact hself _ _ (lv_sub hl [1, 2, 0] rfl) hf
    · have hf := ite_f hf c_5
      refine lv_iconst (v := (1 : Int32)) hx hb dX3_hasTwo_25 (by decide) ?_
      exact W.zret (v := (1 : Int32)) hx hb hr rfl (fun t ht hW => ⟨_, rfl, Option.some.inj hf, ht⟩) (fun _ h => absurd h List.not_mem_nil) dX3_hasTwo_26
theorem wX3_hasTwo_L2 {p : Program} {l : Launch} {e : Env} {s : State} {m : MethodId} {args : Array Value} {below : List Frame} {meth : Method} {c : Code} {D : va_G} {cy : Nat → ClassId} {hre hrr hrs : Nat} {r0 : Int32} (E0 : En p m c cX3_hasTwo 4 s args wsX3_hasTwo RX3 meth (some .boolean) D cy) (N : Nat) (eN : Int32) (eR : Nat → Int64) (eS : Nat → Int64) (x1 : Int64) (hP : va_P D vwCl [(hre, .inr (2, [.ref hrr, .ref hrs, .int eN])), (hrr, .inl (cy 1, 200, .inr (.inl eR))), (hrs, .inl (cy 1, 512, .inr (.inl eS)))] s.heap) (k : Option (Int32)) (hk : ∀ (ls : Array Slot), lv_has ls 4 [] → k = some r0 → GX3_hasTwo p l e s m args below meth c r0 (F0 m 33 ls [])) : ∀ (n : Nat), ∀ (x3 : Int32) (ls : Array Slot), lv_has ls 4 [(0, .ref hre), (1, .long x1), (3, .int x3)] → fX3_hasTwo_L2 N eN eR eS x1 k n x3 = some r0 → GX3_hasTwo p l e s m args below meth c r0 (F0 m 2 ls []) := by
  intro n
  induction n with
  | zero => intro x3 ls hl hf; cases hf
  | succ n ih => exact wX3_hasTwo_B2 E0 N eN eR eS x1 hP _ ih k hk
set_option maxHeartbeats 4000000 in
set_option maxRecDepth 100000 in
theorem ctX3_hasTwo (l : Launch) (D : va_G) (cy : Nat → ClassId) (N : Nat) (hre hrr hrs : Nat) (eN : Int32) (eR : Nat → Int64) (eS : Nat → Int64) (x1 : Int64) (r0 : Int32) (hf : fX3_hasTwo N eN eR eS x1 = some r0) : Met l yX3_hasTwo wsX3_hasTwo rX3_hasTwo (va_Pc [.ref hre, .long x1] (Rd D cy [(hre, .inr (2, [.ref hrr, .ref hrs, .int eN])), (hrr, .inl (cy 1, 200, .inr (.inl eR))), (hrs, .inl (cy 1, 512, .inr (.inl eS)))])) (vp_Si (fun r => r = r0)) 0 0 (fun _ => False) := by
  refine Met.ofW (cc := cX3_hasTwo) (maxL := 4) (ret := (some .boolean)) (by decide) rfl ?_
  intro p e s m args below meth c s₁ B hml hv
  obtain ⟨rfl, hP, hB⟩ := hv
  have hx := B.exec
  have hb := B.bytes
  have hr := B.returns
  have hts := atoms_spec (ws := wsX3_hasTwo) B.pre
  have hown : s.vm.findClass RX3 = some m.cls := findClass_of_methodNamed B.named
  have hlocks := B.notSynchronized
  have hK := hB.1
  have hN := hB.2
  have hl := lv_entry ([.ref hre, .long x1]) (n := 4) (Nat.le_of_ble_eq_true rfl)
  rw [lg_entry_eq]
  generalize (lg_sl ([.ref hre, .long x1]) ++ List.replicate (4 - (lg_sl ([.ref hre, .long x1])).length) Slot.unset).toArray = ls at hl ⊢
  have hl : lv_has ls 4 [(0, .ref hre), (1, .long x1)] := hl
  have E0 : En p m c cX3_hasTwo 4 s ([.ref hre, .long x1] : List Value).toArray wsX3_hasTwo RX3 meth (some .boolean) D cy := ⟨⟨hx, hb, hml, hown, hts⟩, hr, hlocks, hB⟩
  unfold fX3_hasTwo at hf
  refine lv_iconst (v := (0 : Int32)) hx hb dX3_hasTwo_0 (by decide) ?_
  refine lv_istore_n (lv' := [(3, .int (0 : Int32)), (0, .ref hre), (1, .long x1)]) hx hb dX3_hasTwo_1 rfl hl (by decide) rfl (fun ls hl => ?_)
  refine wX3_hasTwo_L2 E0 N eN eR eS x1 hP _ (fun  ls hl hf => ?_) N _ _ (lv_sub hl [1, 2, 0] rfl) hf
  refine lv_iconst (v := (0 : Int32)) hx hb dX3_hasTwo_33 (by decide) ?_
  exact W.zret (v := (0 : Int32)) hx hb hr rfl (fun t ht hW => ⟨_, rfl, Option.some.inj hf, ht⟩) (fun _ h => absurd h List.not_mem_nil) dX3_hasTwo_34

/-! SumForms$Factors.append(JI)V -/
abbrev rX0_append : Room := { frames := 0, cells := 0, slots := 0, locals := 0 }
theorem mX0_append_0 : Cond.fieldLink RX0 19 "SumForms$Factors" "size" "I" ∈ wsX0_append := by decide +kernel
theorem mX0_append_1 : Cond.fieldLink RX0 11 "SumForms$Factors" "polynomials" "[J" ∈ wsX0_append := by decide +kernel
theorem mX0_append_2 : Cond.fieldLink RX0 15 "SumForms$Factors" "times" "[I" ∈ wsX0_append := by decide +kernel
theorem inX0_append_X0 : ∀ w ∈ u_ws RX0 TX0 5, w ∈ wsX0_append := by decide +kernel
abbrev GX0_append (p : Program) (l : Launch) (e : Env) (s : State) (m : MethodId) (args : Array Value) (below : List Frame) (meth : Method) (c : Code) (D : va_G) (cy : Nat → ClassId) (A : Nat → Prop) (hfa : Nat) (hfp : Nat) (hft : Nat) (fO : Int64) (fG : Int64) (r0 : Int32 × (Nat → Int64) × (Nat → Int32)) (H : Heap) (locs : List Loc) (fr : JFrame) : Prop := W p l e (headSpec wsX0_append rX0_append).room s m args below meth c H locs 0 0 (MQ below (Qwv D A [(hfa, .inr (0, [.ref hfp, .ref hft, .int r0.1, .long fO, .long fG])), (hfp, .inl (cy 1, 9, .inr (.inl r0.2.1))), (hft, .inl (cy 0, 9, .inl r0.2.2))]) args s 0 0 A) fr
def fX0_append (N : Nat) (fN : Int32) (fP : Nat → Int64) (fT : Nat → Int32) (x1 : Int64) (x3 : Int32) : Option (Int32 × (Nat → Int64) × (Nat → Int32)) := (if (9 : Int32) ≤ fN then (some (fN, fP, fT)) else (if OOB fN 9 then none else (if OOB fN 9 then none else (some ((fN + (1 : Int32)), (vp_updL fP fN.toNatClampNeg x1), (upd fT fN.toNatClampNeg x3))))))
set_option maxHeartbeats 4000000 in
set_option maxRecDepth 100000 in
theorem ctX0_append (l : Launch) (D : va_G) (cy : Nat → ClassId) (N : Nat) (hfa hfp hft : Nat) (sz : Nat) (fN : Int32) (fO : Int64) (fG : Int64) (fP : Nat → Int64) (fT : Nat → Int32) (x1 : Int64) (x3 : Int32) (r0 : Int32 × (Nat → Int64) × (Nat → Int32)) (hf : fX0_append N fN fP fT x1 x3 = some r0) : Met l yX0_append wsX0_append rX0_append (va_Pc [.ref hfa, .long x1, .int x3] (Wr D cy [(hfa, .inr (0, [.ref hfp, .ref hft, .int fN, .long fO, .long fG])), (hfp, .inl (cy 1, 9, .inr (.inl fP))), (hft, .inl (cy 0, 9, .inl fT))] sz)) (Qwv D (va_A [(hfa, .inr (0, [.ref hfp, .ref hft, .int fN, .long fO, .long fG])), (hfp, .inl (cy 1, 9, .inr (.inl fP))), (hft, .inl (cy 0, 9, .inl fT))] sz) [(hfa, .inr (0, [.ref hfp, .ref hft, .int r0.1, .long fO, .long fG])), (hfp, .inl (cy 1, 9, .inr (.inl r0.2.1))), (hft, .inl (cy 0, 9, .inl r0.2.2))]) 0 0 (va_A [(hfa, .inr (0, [.ref hfp, .ref hft, .int fN, .long fO, .long fG])), (hfp, .inl (cy 1, 9, .inr (.inl fP))), (hft, .inl (cy 0, 9, .inl fT))] sz) := by
  refine Met.ofW (cc := cX0_append) (maxL := 4) (ret := none) (by decide) rfl ?_
  intro p e s m args below meth c s₁ B hml hv
  obtain ⟨rfl, hsz, hP, hD0, hB⟩ := hv
  have hx := B.exec
  have hb := B.bytes
  have hr := B.returns
  have hts := atoms_spec (ws := wsX0_append) B.pre
  have hown : s.vm.findClass RX0 = some m.cls := findClass_of_methodNamed B.named
  have hlocks := B.notSynchronized
  have hK := hB.1
  have hN := hB.2
  subst hsz
  have hD := hD0.self (sz := s.heap.size)
  have hA : ∀ q : Nat, s.heap.size ≤ q → va_A [(hfa, .inr (0, [.ref hfp, .ref hft, .int fN, .long fO, .long fG])), (hfp, .inl (cy 1, 9, .inr (.inl fP))), (hft, .inl (cy 0, 9, .inl fT))] s.heap.size q := fun q h => Or.inr h
  generalize va_A [(hfa, .inr (0, [.ref hfp, .ref hft, .int fN, .long fO, .long fG])), (hfp, .inl (cy 1, 9, .inr (.inl fP))), (hft, .inl (cy 0, 9, .inl fT))] s.heap.size = A at hD hA ⊢
  have hS : va_S A s.heap s.heap [] := va_S.rf
  have hl := lv_entry ([.ref hfa, .long x1, .int x3]) (n := 4) (Nat.le_of_ble_eq_true rfl)
  rw [lg_entry_eq]
  generalize (lg_sl ([.ref hfa, .long x1, .int x3]) ++ List.replicate (4 - (lg_sl ([.ref hfa, .long x1, .int x3])).length) Slot.unset).toArray = ls at hl ⊢
  have hl : lv_has ls 4 [(0, .ref hfa), (1, .long x1), (3, .int x3)] := hl
  have E0 : En p m c cX0_append 4 s ([.ref hfa, .long x1, .int x3] : List Value).toArray wsX0_append RX0 meth none D cy := ⟨⟨hx, hb, hml, hown, hts⟩, hr, hlocks, hB⟩
  unfold fX0_append at hf
  refine lv_aload_n hx hb dX0_append_0 rfl (lv_at hl 0 rfl) ?_
  refine va_get (D := D) (ci := 0) (v := .int fN) (C := RX0) (T := TX0) (N := 5) hx hb hts inX0_append_X0 hown hK hP 0 rfl rfl 2 (by decide) (hts _ mX0_append_0) (fun _ h9 => h9) rfl dX0_append_1 ?_
  refine lv_bipush (v := (9 : Int32)) hx hb dX0_append_4 (by decide) ?_
  refine lv_icmp_ge (tgt := 39) hx hb dX0_append_6 (by decide) (fun c_1 => ?_) (fun c_1 => ?_)
  · have hf := ite_t hf c_1
    cases hf
    exact W.vret hx hb hr (fun t ht hW => ⟨⟨(), rfl, trivial, by rw [ht]; exact hP, hD⟩, hS.F ht⟩) hS.2.2 dX0_append_39
  · have hf := ite_f hf c_1
    refine lv_aload_n hx hb dX0_append_9 rfl (lv_at hl 0 rfl) ?_
    refine va_get (D := D) (ci := 0) (v := .ref hfp) (C := RX0) (T := TX0) (N := 5) hx hb hts inX0_append_X0 hown hK hP 0 rfl rfl 0 (by decide) (hts _ mX0_append_1) (fun _ h9 => h9) rfl dX0_append_10 ?_
    refine lv_aload_n hx hb dX0_append_13 rfl (lv_at hl 0 rfl) ?_
    refine va_get (D := D) (ci := 0) (v := .int fN) (C := RX0) (T := TX0) (N := 5) hx hb hts inX0_append_X0 hown hK hP 0 rfl rfl 2 (by decide) (hts _ mX0_append_0) (fun _ h9 => h9) rfl dX0_append_14 ?_
    refine lv_lload_n hx hb dX0_append_17 rfl (lv_at hl 1 rfl) ?_
    obtain ⟨b_2, hf⟩ := ite_n hf
    refine va_last hx hb hK hP hD hS 1 1 rfl rfl b_2 dX0_append_18 (fun H3 locs4 hP hD hS => ?_)
    have hP : va_P D vwCl [(hfa, .inr (0, [.ref hfp, .ref hft, .int fN, .long fO, .long fG])), (hfp, .inl (cy 1, 9, .inr (.inl (vp_updL fP fN.toNatClampNeg x1)))), (hft, .inl (cy 0, 9, .inl fT))] H3 := hP
    have hD : va_D A [(hfa, .inr (0, [.ref hfp, .ref hft, .int fN, .long fO, .long fG])), (hfp, .inl (cy 1, 9, .inr (.inl (vp_updL fP fN.toNatClampNeg x1)))), (hft, .inl (cy 0, 9, .inl fT))] := hD
    refine lv_aload_n hx hb dX0_append_19 rfl (lv_at hl 0 rfl) ?_
    refine va_get (D := D) (ci := 0) (v := .ref hft) (C := RX0) (T := TX0) (N := 5) hx hb hts inX0_append_X0 hown hK hP 0 rfl rfl 1 (by decide) (hts _ mX0_append_2) (fun _ h9 => h9) rfl dX0_append_20 ?_
    refine lv_aload_n hx hb dX0_append_23 rfl (lv_at hl 0 rfl) ?_
    refine va_get (D := D) (ci := 0) (v := .int fN) (C := RX0) (T := TX0) (N := 5) hx hb hts inX0_append_X0 hown hK hP 0 rfl rfl 2 (by decide) (hts _ mX0_append_0) (fun _ h9 => h9) rfl dX0_append_24 ?_
    refine lv_iload_n hx hb dX0_append_27 rfl (lv_at hl 2 rfl) ?_
    obtain ⟨b_5, hf⟩ := ite_n hf
    refine va_iast hx hb hK hP hD hS 2 0 rfl rfl b_5 dX0_append_28 (fun H6 locs7 hP hD hS => ?_)
    have hP : va_P D vwCl [(hfa, .inr (0, [.ref hfp, .ref hft, .int fN, .long fO, .long fG])), (hfp, .inl (cy 1, 9, .inr (.inl (vp_updL fP fN.toNatClampNeg x1)))), (hft, .inl (cy 0, 9, .inl (upd fT fN.toNatClampNeg x3)))] H6 := hP
    have hD : va_D A [(hfa, .inr (0, [.ref hfp, .ref hft, .int fN, .long fO, .long fG])), (hfp, .inl (cy 1, 9, .inr (.inl (vp_updL fP fN.toNatClampNeg x1)))), (hft, .inl (cy 0, 9, .inl (upd fT fN.toNatClampNeg x3)))] := hD
    refine lv_aload_n hx hb dX0_append_29 rfl (lv_at hl 0 rfl) ?_
    refine lv_dup hx hb dX0_append_30 rfl ?_
    refine va_get (D := D) (ci := 0) (v := .int fN) (C := RX0) (T := TX0) (N := 5) hx hb hts inX0_append_X0 hown hK hP 0 rfl rfl 2 (by decide) (hts _ mX0_append_0) (fun _ h9 => h9) rfl dX0_append_31 ?_
    refine lv_iconst (v := (1 : Int32)) hx hb dX0_append_34 (by decide) ?_
    refine lv_iadd hx hb dX0_append_35 ?_
    refine va_put (D := D) (ci := 0) (v := .int (fN + (1 : Int32))) (ty := .int) (C := RX0) (T := TX0) (N := 5) hx hb hts inX0_append_X0 tyX0 tyX0_ok nmX0 hown hK hP hD hS 0 rfl rfl 2 (by decide) (hts _ mX0_append_0) (fun _ h9 => h9) rfl (by decide +kernel) rfl rfl (Nat.le_of_ble_eq_true rfl) dX0_append_36 (fun H8 locs9 hP hD hS => ?_)
    have hP : va_P D vwCl [(hfa, .inr (0, [.ref hfp, .ref hft, .int (fN + (1 : Int32)), .long fO, .long fG])), (hfp, .inl (cy 1, 9, .inr (.inl (vp_updL fP fN.toNatClampNeg x1)))), (hft, .inl (cy 0, 9, .inl (upd fT fN.toNatClampNeg x3)))] H8 := hP
    have hD : va_D A [(hfa, .inr (0, [.ref hfp, .ref hft, .int (fN + (1 : Int32)), .long fO, .long fG])), (hfp, .inl (cy 1, 9, .inr (.inl (vp_updL fP fN.toNatClampNeg x1)))), (hft, .inl (cy 0, 9, .inl (upd fT fN.toNatClampNeg x3)))] := hD
    cases hf
    exact W.vret hx hb hr (fun t ht hW => ⟨⟨(), rfl, trivial, by rw [ht]; exact hP, hD⟩, hS.F ht⟩) hS.2.2 dX0_append_39
/-! SumForms$Factors.splitOne(IJ)V -/
abbrev rX0_splitOne : Room := { frames := 3, cells := 0, slots := 0, locals := 80 }
theorem mX0_splitOne_0 : Cond.fieldLink RX0 11 "SumForms$Factors" "polynomials" "[J" ∈ wsX0_splitOne := by decide +kernel
theorem mX0_splitOne_1 : Cond.initialized RX2 ∈ wsX0_splitOne := by decide +kernel
theorem mX0_splitOne_2 : Cond.static yX2_remainder ∈ wsX0_splitOne := by decide +kernel
theorem mX0_splitOne_3 : Cond.static yX2_greatestCommon ∈ wsX0_splitOne := by decide +kernel
theorem mX0_splitOne_4 : Cond.static yX2_quotient ∈ wsX0_splitOne := by decide +kernel
theorem inX0_splitOne_X0 : ∀ w ∈ u_ws RX0 TX0 5, w ∈ wsX0_splitOne := by decide +kernel
abbrev GX0_splitOne (p : Program) (l : Launch) (e : Env) (s : State) (m : MethodId) (args : Array Value) (below : List Frame) (meth : Method) (c : Code) (D : va_G) (cy : Nat → ClassId) (A : Nat → Prop) (hfa : Nat) (hfp : Nat) (hft : Nat) (fO : Int64) (fG : Int64) (r0 : Int32 × (Nat → Int64) × (Nat → Int32)) (H : Heap) (locs : List Loc) (fr : JFrame) : Prop := W p l e (headSpec wsX0_splitOne rX0_splitOne).room s m args below meth c H locs 0 0 (MQ below (Qwv D A [(hfa, .inr (0, [.ref hfp, .ref hft, .int r0.1, .long fO, .long fG])), (hfp, .inl (cy 1, 9, .inr (.inl r0.2.1))), (hft, .inl (cy 0, 9, .inl r0.2.2))]) args s 0 0 A) fr
def fX0_splitOne (N : Nat) (fN : Int32) (fP : Nat → Int64) (fT : Nat → Int32) (x1 : Int32) (x2 : Int64) : Option (Int32 × (Nat → Int64) × (Nat → Int32)) := (if OOB x1 9 then none else ((fX2_remainder N x2 (fP x1.toNatClampNeg)).bind (fun r_2 => ((fX2_greatestCommon N (fP x1.toNatClampNeg) r_2).bind (fun r_4 => (if r_4 = (1 : Int64) then (some (fN, fP, fT)) else (if r_4 = (fP x1.toNatClampNeg) then (some (fN, fP, fT)) else (if OOB x1 9 then none else ((fX2_quotient N (fP x1.toNatClampNeg) r_4).bind (fun r_11 => ((fX0_append N fN (vp_updL fP x1.toNatClampNeg r_4) fT r_11 (0 : Int32)).bind (fun r_13 => (some (r_13.1, r_13.2.1, r_13.2.2))))))))))))))
set_option maxHeartbeats 4000000 in
set_option maxRecDepth 100000 in
theorem ctX0_splitOne (l : Launch) (D : va_G) (cy : Nat → ClassId) (N : Nat) (hfa hfp hft : Nat) (sz : Nat) (fN : Int32) (fO : Int64) (fG : Int64) (fP : Nat → Int64) (fT : Nat → Int32) (x1 : Int32) (x2 : Int64) (r0 : Int32 × (Nat → Int64) × (Nat → Int32)) (hf : fX0_splitOne N fN fP fT x1 x2 = some r0) : Met l yX0_splitOne wsX0_splitOne rX0_splitOne (va_Pc [.ref hfa, .int x1, .long x2] (Wr D cy [(hfa, .inr (0, [.ref hfp, .ref hft, .int fN, .long fO, .long fG])), (hfp, .inl (cy 1, 9, .inr (.inl fP))), (hft, .inl (cy 0, 9, .inl fT))] sz)) (Qwv D (va_A [(hfa, .inr (0, [.ref hfp, .ref hft, .int fN, .long fO, .long fG])), (hfp, .inl (cy 1, 9, .inr (.inl fP))), (hft, .inl (cy 0, 9, .inl fT))] sz) [(hfa, .inr (0, [.ref hfp, .ref hft, .int r0.1, .long fO, .long fG])), (hfp, .inl (cy 1, 9, .inr (.inl r0.2.1))), (hft, .inl (cy 0, 9, .inl r0.2.2))]) 0 0 (va_A [(hfa, .inr (0, [.ref hfp, .ref hft, .int fN, .long fO, .long fG])), (hfp, .inl (cy 1, 9, .inr (.inl fP))), (hft, .inl (cy 0, 9, .inl fT))] sz) := by
  refine Met.ofW (cc := cX0_splitOne) (maxL := 8) (ret := none) (by decide) rfl ?_
  intro p e s m args below meth c s₁ B hml hv
  obtain ⟨rfl, hsz, hP, hD0, hB⟩ := hv
  have hx := B.exec
  have hb := B.bytes
  have hr := B.returns
  have hts := atoms_spec (ws := wsX0_splitOne) B.pre
  have hown : s.vm.findClass RX0 = some m.cls := findClass_of_methodNamed B.named
  have hlocks := B.notSynchronized
  have hK := hB.1
  have hN := hB.2
  subst hsz
  have hD := hD0.self (sz := s.heap.size)
  have hA : ∀ q : Nat, s.heap.size ≤ q → va_A [(hfa, .inr (0, [.ref hfp, .ref hft, .int fN, .long fO, .long fG])), (hfp, .inl (cy 1, 9, .inr (.inl fP))), (hft, .inl (cy 0, 9, .inl fT))] s.heap.size q := fun q h => Or.inr h
  generalize va_A [(hfa, .inr (0, [.ref hfp, .ref hft, .int fN, .long fO, .long fG])), (hfp, .inl (cy 1, 9, .inr (.inl fP))), (hft, .inl (cy 0, 9, .inl fT))] s.heap.size = A at hD hA ⊢
  have hS : va_S A s.heap s.heap [] := va_S.rf
  have hl := lv_entry ([.ref hfa, .int x1, .long x2]) (n := 8) (Nat.le_of_ble_eq_true rfl)
  rw [lg_entry_eq]
  generalize (lg_sl ([.ref hfa, .int x1, .long x2]) ++ List.replicate (8 - (lg_sl ([.ref hfa, .int x1, .long x2])).length) Slot.unset).toArray = ls at hl ⊢
  have hl : lv_has ls 8 [(0, .ref hfa), (1, .int x1), (2, .long x2)] := hl
  have E0 : En p m c cX0_splitOne 8 s ([.ref hfa, .int x1, .long x2] : List Value).toArray wsX0_splitOne RX0 meth none D cy := ⟨⟨hx, hb, hml, hown, hts⟩, hr, hlocks, hB⟩
  unfold fX0_splitOne at hf
  refine lv_aload_n hx hb dX0_splitOne_0 rfl (lv_at hl 0 rfl) ?_
  refine va_get (D := D) (ci := 0) (v := .ref hfp) (C := RX0) (T := TX0) (N := 5) hx hb hts inX0_splitOne_X0 hown hK hP 0 rfl rfl 0 (by decide) (hts _ mX0_splitOne_0) (fun _ h9 => h9) rfl dX0_splitOne_1 ?_
  refine lv_iload_n hx hb dX0_splitOne_4 rfl (lv_at hl 1 rfl) ?_
  obtain ⟨b_1, hf⟩ := ite_n hf
  refine va_lald hx hb hK hP 1 1 rfl rfl b_1 dX0_splitOne_5 ?_
  refine lv_lstore (lv' := [(4, .long (fP x1.toNatClampNeg)), (0, .ref hfa), (1, .int x1), (2, .long x2)]) hx hb dX0_splitOne_6 hl (by decide) rfl (fun ls hl => ?_)
  refine lv_lload hx hb dX0_splitOne_8 (lv_at hl 0 rfl) ?_
  refine lv_lload_n hx hb dX0_splitOne_10 rfl (lv_at hl 3 rfl) ?_
  refine lv_lload hx hb dX0_splitOne_11 (lv_at hl 0 rfl) ?_
  obtain ⟨r_2, h_3, hf⟩ := bind_some hf
  have hP_r_2 : va_P D vwCl [] s.heap := hP.sub [] rfl
  refine cz_l (va_runSN (As := [.long x2, .long (fP x1.toNatClampNeg)]) (rest := [.long (fP x1.toNatClampNeg)]) ⟨hx, hb, hml, hown, hts⟩ (ctX2_remainder l D cy N   x2 (fP x1.toNatClampNeg) r_2 h_3) ⟨va_cnB 2 hts gX0_splitOne_X2_remainder_n62 rfl rfl rfl (nwX0_62 hN) (hts _ mX0_splitOne_1) (by decide +kernel) ⟨Nat.le_of_ble_eq_true rfl, Nat.le_of_ble_eq_true rfl⟩, hts _ mX0_splitOne_2, trivial⟩ (preS_rd [.long x2, .long (fP x1.toNatClampNeg)] hP_r_2 hB) rfl rfl hl.1 rfl (lv_room (Nat.le_of_ble_eq_true rfl)) dX0_splitOne_13 ⟨Nat.zero_le _, Nat.zero_le _⟩) ?_
  obtain ⟨r_4, h_5, hf⟩ := bind_some hf
  have hP_r_4 : va_P D vwCl [] s.heap := hP.sub [] rfl
  refine cz_l (va_runSN (As := [.long (fP x1.toNatClampNeg), .long r_2]) (rest := []) ⟨hx, hb, hml, hown, hts⟩ (ctX2_greatestCommon l D cy N   (fP x1.toNatClampNeg) r_2 r_4 h_5) ⟨va_cnB 2 hts gX0_splitOne_X2_greatestCommon_n42 rfl rfl rfl (nwX0_42 hN) (hts _ mX0_splitOne_1) (by decide +kernel) ⟨Nat.le_of_ble_eq_true rfl, Nat.le_of_ble_eq_true rfl⟩, hts _ mX0_splitOne_3, trivial⟩ (preS_rd [.long (fP x1.toNatClampNeg), .long r_2] hP_r_4 hB) rfl rfl hl.1 rfl (lv_room (Nat.le_of_ble_eq_true rfl)) dX0_splitOne_16 ⟨Nat.zero_le _, Nat.zero_le _⟩) ?_
  refine lv_lstore (lv' := [(6, .long r_4), (4, .long (fP x1.toNatClampNeg)), (0, .ref hfa), (1, .int x1), (2, .long x2)]) hx hb dX0_splitOne_19 hl (by decide) rfl (fun ls hl => ?_)
  refine lv_lload hx hb dX0_splitOne_21 (lv_at hl 0 rfl) ?_
  refine lv_lconst (v := (1 : Int64)) hx hb dX0_splitOne_23 (by decide) ?_
  refine zz_lc_eq (tgt := 56) hx hb dX0_splitOne_24 dX0_splitOne_25 (by decide) (fun c_6 => ?_) (fun c_6 => ?_)
  · have hf := ite_t hf c_6
    cases hf
    exact W.vret hx hb hr (fun t ht hW => ⟨⟨(), rfl, trivial, by rw [ht]; exact hP, hD⟩, hS.F ht⟩) hS.2.2 dX0_splitOne_56
  · have hf := ite_f hf c_6
    refine lv_lload hx hb dX0_splitOne_28 (lv_at hl 0 rfl) ?_
    refine lv_lload hx hb dX0_splitOne_30 (lv_at hl 1 rfl) ?_
    refine zz_lc_eq (tgt := 56) hx hb dX0_splitOne_32 dX0_splitOne_33 (by decide) (fun c_7 => ?_) (fun c_7 => ?_)
    · have hf := ite_t hf c_7
      cases hf
      exact W.vret hx hb hr (fun t ht hW => ⟨⟨(), rfl, trivial, by rw [ht]; exact hP, hD⟩, hS.F ht⟩) hS.2.2 dX0_splitOne_56
    · have hf := ite_f hf c_7
      refine lv_aload_n hx hb dX0_splitOne_36 rfl (lv_at hl 2 rfl) ?_
      refine va_get (D := D) (ci := 0) (v := .ref hfp) (C := RX0) (T := TX0) (N := 5) hx hb hts inX0_splitOne_X0 hown hK hP 0 rfl rfl 0 (by decide) (hts _ mX0_splitOne_0) (fun _ h9 => h9) rfl dX0_splitOne_37 ?_
      refine lv_iload_n hx hb dX0_splitOne_40 rfl (lv_at hl 3 rfl) ?_
      refine lv_lload hx hb dX0_splitOne_41 (lv_at hl 0 rfl) ?_
      obtain ⟨b_8, hf⟩ := ite_n hf
      refine va_last hx hb hK hP hD hS 1 1 rfl rfl b_8 dX0_splitOne_43 (fun H9 locs10 hP hD hS => ?_)
      have hP : va_P D vwCl [(hfa, .inr (0, [.ref hfp, .ref hft, .int fN, .long fO, .long fG])), (hfp, .inl (cy 1, 9, .inr (.inl (vp_updL fP x1.toNatClampNeg r_4)))), (hft, .inl (cy 0, 9, .inl fT))] H9 := hP
      have hD : va_D A [(hfa, .inr (0, [.ref hfp, .ref hft, .int fN, .long fO, .long fG])), (hfp, .inl (cy 1, 9, .inr (.inl (vp_updL fP x1.toNatClampNeg r_4)))), (hft, .inl (cy 0, 9, .inl fT))] := hD
      refine lv_aload_n hx hb dX0_splitOne_44 rfl (lv_at hl 2 rfl) ?_
      refine lv_lload hx hb dX0_splitOne_45 (lv_at hl 1 rfl) ?_
      refine lv_lload hx hb dX0_splitOne_47 (lv_at hl 0 rfl) ?_
      obtain ⟨r_11, h_12, hf⟩ := bind_some hf
      have hP_r_11 : va_P D vwCl [] H9 := hP.sub [] rfl
      refine cz_l (va_runSN (As := [.long (fP x1.toNatClampNeg), .long r_4]) (rest := [.ref hfa]) ⟨hx, hb, hml, hown, hts⟩ (ctX2_quotient l D cy N   (fP x1.toNatClampNeg) r_4 r_11 h_12) ⟨va_cnB 2 hts gX0_splitOne_X2_quotient_n77 rfl rfl rfl (nwX0_77 hN) (hts _ mX0_splitOne_1) (by decide +kernel) ⟨Nat.le_of_ble_eq_true rfl, Nat.le_of_ble_eq_true rfl⟩, hts _ mX0_splitOne_4, trivial⟩ (preS_rd [.long (fP x1.toNatClampNeg), .long r_4] hP_r_11 hB) rfl rfl hl.1 rfl (lv_room (Nat.le_of_ble_eq_true rfl)) dX0_splitOne_49 ⟨Nat.zero_le _, Nat.zero_le _⟩) ?_
      refine lv_iconst (v := (0 : Int32)) hx hb dX0_splitOne_52 (by decide) ?_
      obtain ⟨r_13, h_14, hf⟩ := bind_some hf
      have hP_r_13 : va_P D vwCl [(hfa, .inr (0, [.ref hfp, .ref hft, .int fN, .long fO, .long fG])), (hfp, .inl (cy 1, 9, .inr (.inl (vp_updL fP x1.toNatClampNeg r_4)))), (hft, .inl (cy 0, 9, .inl fT))] H9 := hP.sub [0, 1, 2] rfl
      have hD_r_13 : va_D A [(hfa, .inr (0, [.ref hfp, .ref hft, .int fN, .long fO, .long fG])), (hfp, .inl (cy 1, 9, .inr (.inl (vp_updL fP x1.toNatClampNeg r_4)))), (hft, .inl (cy 0, 9, .inl fT))] := hD.sub [0, 1, 2] (by decide) rfl
      refine cj_v (wc := [(hfa, .inr (0, [.ref hfp, .ref hft, .int fN, .long fO, .long fG])), (hfp, .inl (cy 1, 9, .inr (.inl (vp_updL fP x1.toNatClampNeg r_4)))), (hft, .inl (cy 0, 9, .inl fT))]) (wr := []) (w1 := [(hfa, .inr (0, [.ref hfp, .ref hft, .int r_13.1, .long fO, .long fG])), (hfp, .inl (cy 1, 9, .inr (.inl r_13.2.1))), (hft, .inl (cy 0, 9, .inl r_13.2.2))]) [0, 1, 2] [] (va_runV (As := [.long r_11, .int (0 : Int32)]) (rest := []) ⟨hx, hb, hml, hown, hts⟩ (ctX0_append l D cy N hfa hfp hft H9.size fN fO fG (vp_updL fP x1.toNatClampNeg r_4) fT r_11 (0 : Int32) r_13 h_14) (cwV 2 hts gX0_splitOne_X0_append rfl rfl rfl (by decide +kernel) ⟨Nat.le_of_ble_eq_true rfl, Nat.le_of_ble_eq_true rfl⟩) (preV_wr (ci := 0) (q0 := 0) [.long r_11, .int (0 : Int32)] hP_r_13 hD_r_13 hB rfl rfl) rfl rfl hl.1 rfl (lv_room (Nat.le_of_ble_eq_true rfl)) dX0_splitOne_53 ⟨Nat.zero_le _, Nat.zero_le _⟩) hP hD hS hA rfl rfl (by decide) (by decide) (fun H15 locs16 hP hD hS => ?_)
      have hP : va_P D vwCl [(hfa, .inr (0, [.ref hfp, .ref hft, .int r_13.1, .long fO, .long fG])), (hfp, .inl (cy 1, 9, .inr (.inl r_13.2.1))), (hft, .inl (cy 0, 9, .inl r_13.2.2))] H15 := hP.sub [0, 1, 2] rfl
      have hD : va_D A [(hfa, .inr (0, [.ref hfp, .ref hft, .int r_13.1, .long fO, .long fG])), (hfp, .inl (cy 1, 9, .inr (.inl r_13.2.1))), (hft, .inl (cy 0, 9, .inl r_13.2.2))] := hD.sub [0, 1, 2] (by decide) rfl
      cases hf
      exact W.vret hx hb hr (fun t ht hW => ⟨⟨(), rfl, trivial, by rw [ht]; exact hP, hD⟩, hS.F ht⟩) hS.2.2 dX0_splitOne_56
/-! SumForms$Factors.split(IJI)V -/
abbrev rX0_split : Room := { frames := 4, cells := 0, slots := 0, locals := 107 }
theorem mX0_split_0 : Cond.initialized RX2 ∈ wsX0_split := by decide +kernel
theorem mX0_split_1 : Cond.static yX2_degree ∈ wsX0_split := by decide +kernel
theorem mX0_split_2 : Cond.fieldLink RX0 19 "SumForms$Factors" "size" "I" ∈ wsX0_split := by decide +kernel
theorem mX0_split_3 : Cond.static yX2_timesX ∈ wsX0_split := by decide +kernel
theorem mX0_split_4 : Cond.static yX2_trace ∈ wsX0_split := by decide +kernel
theorem inX0_split_X0 : ∀ w ∈ u_ws RX0 TX0 5, w ∈ wsX0_split := by decide +kernel
abbrev GX0_split (p : Program) (l : Launch) (e : Env) (s : State) (m : MethodId) (args : Array Value) (below : List Frame) (meth : Method) (c : Code) (D : va_G) (cy : Nat → ClassId) (A : Nat → Prop) (hfa : Nat) (hfp : Nat) (hft : Nat) (fO : Int64) (fG : Int64) (r0 : Int32 × (Nat → Int64) × (Nat → Int32)) (H : Heap) (locs : List Loc) (fr : JFrame) : Prop := W p l e (headSpec wsX0_split rX0_split).room s m args below meth c H locs 0 0 (MQ below (Qwv D A [(hfa, .inr (0, [.ref hfp, .ref hft, .int r0.1, .long fO, .long fG])), (hfp, .inl (cy 1, 9, .inr (.inl r0.2.1))), (hft, .inl (cy 0, 9, .inl r0.2.2))]) args s 0 0 A) fr
def fX0_split_B62 (N : Nat) (x1 : Int32) (x2 : Int64) (x4 : Int32) (x5 : Int32) (x6 : Int64) (x8 : Int32) (x9 : Int64) (x11 : Int32) (self : Int32 → (Nat → Int64) → (Nat → Int32) → Int32 → Option (Int32 × (Nat → Int64) × (Nat → Int32))) (k : Int32 → (Nat → Int64) → (Nat → Int32) → Option (Int32 × (Nat → Int64) × (Nat → Int32))) (fN : Int32) (fP : Nat → Int64) (fT : Nat → Int32) (x12 : Int32) : Option (Int32 × (Nat → Int64) × (Nat → Int32)) := (if x11 ≤ x12 then (k fN fP fT) else ((fX0_splitOne N fN fP fT x12 x9).bind (fun r_10 => (self r_10.1 r_10.2.1 r_10.2.2 (x12 + (1 : Int32))))))
def fX0_split_L62 (N : Nat) (x1 : Int32) (x2 : Int64) (x4 : Int32) (x5 : Int32) (x6 : Int64) (x8 : Int32) (x9 : Int64) (x11 : Int32) (k : Int32 → (Nat → Int64) → (Nat → Int32) → Option (Int32 × (Nat → Int64) × (Nat → Int32))) : Nat → Int32 → (Nat → Int64) → (Nat → Int32) → Int32 → Option (Int32 × (Nat → Int64) × (Nat → Int32))
  | 0 => fun _ _ _ _ => none
  | n + 1 => fun fN fP fT x12 => fX0_split_B62 N x1 x2 x4 x5 x6 x8 x9 x11 (fX0_split_L62 N x1 x2 x4 x5 x6 x8 x9 x11 k n) k fN fP fT x12
def fX0_split_B12 (N : Nat) (x1 : Int32) (x2 : Int64) (x4 : Int32) (x5 : Int32) (self : Int32 → (Nat → Int64) → (Nat → Int32) → Int64 → Int32 → Option (Int32 × (Nat → Int64) × (Nat → Int32))) (k : Int32 → (Nat → Int64) → (Nat → Int32) → Option (Int32 × (Nat → Int64) × (Nat → Int32))) (fN : Int32) (fP : Nat → Int64) (fT : Nat → Int32) (x6 : Int64) (x8 : Int32) : Option (Int32 × (Nat → Int64) × (Nat → Int32)) := (if x5 ≤ x8 then (k fN fP fT) else (if x5 ≤ ((fN - x1) * x4) then (k fN fP fT) else ((fX2_timesX N x6 x2 x5).bind (fun r_5 => ((fX2_trace N r_5 x4 x2).bind (fun r_7 => (fX0_split_L62 N x1 x2 x4 x5 r_5 x8 r_7 fN (fun fN_14 fP_15 fT_16 => (self fN_14 fP_15 fT_16 r_5 (x8 + (1 : Int32)))) N fN fP fT x1)))))))
def fX0_split_L12 (N : Nat) (x1 : Int32) (x2 : Int64) (x4 : Int32) (x5 : Int32) (k : Int32 → (Nat → Int64) → (Nat → Int32) → Option (Int32 × (Nat → Int64) × (Nat → Int32))) : Nat → Int32 → (Nat → Int64) → (Nat → Int32) → Int64 → Int32 → Option (Int32 × (Nat → Int64) × (Nat → Int32))
  | 0 => fun _ _ _ _ _ => none
  | n + 1 => fun fN fP fT x6 x8 => fX0_split_B12 N x1 x2 x4 x5 (fX0_split_L12 N x1 x2 x4 x5 k n) k fN fP fT x6 x8
def fX0_split (N : Nat) (fN : Int32) (fP : Nat → Int64) (fT : Nat → Int32) (x1 : Int32) (x2 : Int64) (x4 : Int32) : Option (Int32 × (Nat → Int64) × (Nat → Int32)) := ((fX2_degree N x2).bind (fun r_1 => (fX0_split_L12 N x1 x2 x4 r_1 (fun fN_19 fP_20 fT_21 => (some (fN_19, fP_20, fT_21))) N fN fP fT (1 : Int64) (1 : Int32))))
set_option maxHeartbeats 4000000 in
set_option maxRecDepth 100000 in
theorem wX0_split_B62 {p : Program} {l : Launch} {e : Env} {s : State} {m : MethodId} {args : Array Value} {below : List Frame} {meth : Method} {c : Code} {D : va_G} {cy : Nat → ClassId} {A : Nat → Prop} {hfa hfp hft : Nat} {fO : Int64} {fG : Int64} {r0 : Int32 × (Nat → Int64) × (Nat → Int32)} (E0 : En p m c cX0_split 13 s args wsX0_split RX0 meth none D cy) (N : Nat) (x1 : Int32) (x2 : Int64) (x4 : Int32) (x5 : Int32) (x6 : Int64) (x8 : Int32) (x9 : Int64) (x11 : Int32) (hA : ∀ q, s.heap.size ≤ q → A q) (self : Int32 → (Nat → Int64) → (Nat → Int32) → Int32 → Option (Int32 × (Nat → Int64) × (Nat → Int32))) (hself : ∀ (fN : Int32) (fP : Nat → Int64) (fT : Nat → Int32) (x12 : Int32) (H : Heap) (locs : List Loc) (ls : Array Slot), va_P D vwCl [(hfa, .inr (0, [.ref hfp, .ref hft, .int fN, .long fO, .long fG])), (hfp, .inl (cy 1, 9, .inr (.inl fP))), (hft, .inl (cy 0, 9, .inl fT))] H → va_D A [(hfa, .inr (0, [.ref hfp, .ref hft, .int fN, .long fO, .long fG])), (hfp, .inl (cy 1, 9, .inr (.inl fP))), (hft, .inl (cy 0, 9, .inl fT))] → va_S A s.heap H locs → lv_has ls 13 [(0, .ref hfa), (1, .int x1), (2, .long x2), (4, .int x4), (5, .int x5), (6, .long x6), (8, .int x8), (9, .long x9), (11, .int x11), (12, .int x12)] → self fN fP fT x12 = some r0 → GX0_split p l e s m args below meth c D cy A hfa hfp hft fO fG r0 H locs (F0 m 62 ls [])) (k : Int32 → (Nat → Int64) → (Nat → Int32) → Option (Int32 × (Nat → Int64) × (Nat → Int32))) (hk : ∀ (fN : Int32) (fP : Nat → Int64) (fT : Nat → Int32) (H : Heap) (locs : List Loc) (ls : Array Slot), va_P D vwCl [(hfa, .inr (0, [.ref hfp, .ref hft, .int fN, .long fO, .long fG])), (hfp, .inl (cy 1, 9, .inr (.inl fP))), (hft, .inl (cy 0, 9, .inl fT))] H → va_D A [(hfa, .inr (0, [.ref hfp, .ref hft, .int fN, .long fO, .long fG])), (hfp, .inl (cy 1, 9, .inr (.inl fP))), (hft, .inl (cy 0, 9, .inl fT))] → va_S A s.heap H locs → lv_has ls 13 [(0, .ref hfa), (1, .int x1), (2, .long x2), (4, .int x4), (5, .int x5), (6, .long x6), (8, .int x8)] → k fN fP fT = some r0 → GX0_split p l e s m args below meth c D cy A hfa hfp hft fO fG r0 H locs (F0 m 83 ls [])) : ∀ (fN : Int32) (fP : Nat → Int64) (fT : Nat → Int32) (x12 : Int32) (H : Heap) (locs : List Loc) (ls : Array Slot), va_P D vwCl [(hfa, .inr (0, [.ref hfp, .ref hft, .int fN, .long fO, .long fG])), (hfp, .inl (cy 1, 9, .inr (.inl fP))), (hft, .inl (cy 0, 9, .inl fT))] H → va_D A [(hfa, .inr (0, [.ref hfp, .ref hft, .int fN, .long fO, .long fG])), (hfp, .inl (cy 1, 9, .inr (.inl fP))), (hft, .inl (cy 0, 9, .inl fT))] → va_S A s.heap H locs → lv_has ls 13 [(0, .ref hfa), (1, .int x1), (2, .long x2), (4, .int x4), (5, .int x5), (6, .long x6), (8, .int x8), (9, .long x9), (11, .int x11), (12, .int x12)] → fX0_split_B62 N x1 x2 x4 x5 x6 x8 x9 x11 self k fN fP fT x12 = some r0 → GX0_split p l e s m args below meth c D cy A hfa hfp hft fO fG r0 H locs (F0 m 62 ls []) := by
  obtain ⟨⟨hx, hb, hml, hown, hts⟩, hr, hlocks, hB⟩ := id E0
  have hK := hB.1
  have hN := hB.2
  intro fN fP fT x12 H locs ls hP hD hS hl hf
  unfold fX0_split_B62 at hf
  refine lv_iload hx hb dX0_split_62 (lv_at hl 9 rfl) ?_
  refine lv_iload hx hb dX0_split_64 (lv_at hl 8 rfl) ?_
  refine lv_icmp_ge (tgt := 83) hx hb dX0_split_66 (by decide) (fun c_9 => ?_) (fun c_9 => ?_)
  · have hf := ite_t hf c_9
    exact hk _ _ _ _ _ _ hP hD hS (lv_sub hl [0, 1, 2, 3, 4, 5, 6] rfl) hf
  · have hf := ite_f hf c_9
    refine lv_aload_n hx hb dX0_split_69 rfl (lv_at hl 0 rfl) ?_
    refine lv_iload hx hb dX0_split_70 (lv_at hl 9 rfl) ?_
    refine lv_lload hx hb dX0_split_72 (lv_at hl 7 rfl) ?_
    obtain ⟨r_10, h_11, hf⟩ := bind_some hf
    have hP_r_10 : va_P D vwCl [(hfa, .inr (0, [.ref hfp, .ref hft, .int fN, .long fO, .long fG])), (hfp, .inl (cy 1, 9, .inr (.inl fP))), (hft, .inl (cy 0, 9, .inl fT))] H := hP.sub [0, 1, 2] rfl
    have hD_r_10 : va_D A [(hfa, .inr (0, [.ref hfp, .ref hft, .int fN, .long fO, .long fG])), (hfp, .inl (cy 1, 9, .inr (.inl fP))), (hft, .inl (cy 0, 9, .inl fT))] := hD.sub [0, 1, 2] (by decide) rfl
    refine cj_v (wc := [(hfa, .inr (0, [.ref hfp, .ref hft, .int fN, .long fO, .long fG])), (hfp, .inl (cy 1, 9, .inr (.inl fP))), (hft, .inl (cy 0, 9, .inl fT))]) (wr := []) (w1 := [(hfa, .inr (0, [.ref hfp, .ref hft, .int r_10.1, .long fO, .long fG])), (hfp, .inl (cy 1, 9, .inr (.inl r_10.2.1))), (hft, .inl (cy 0, 9, .inl r_10.2.2))]) [0, 1, 2] [] (va_runV (As := [.int x12, .long x9]) (rest := []) ⟨hx, hb, hml, hown, hts⟩ (ctX0_splitOne l D cy N hfa hfp hft H.size fN fO fG fP fT x12 x9 r_10 h_11) (cwV 2 hts gX0_split_X0_splitOne rfl rfl rfl (by decide +kernel) ⟨Nat.le_of_ble_eq_true rfl, Nat.le_of_ble_eq_true rfl⟩) (preV_wr (ci := 0) (q0 := 0) [.int x12, .long x9] hP_r_10 hD_r_10 hB rfl rfl) rfl rfl hl.1 rfl (lv_room (Nat.le_of_ble_eq_true rfl)) dX0_split_74 ⟨Nat.zero_le _, Nat.zero_le _⟩) hP hD hS hA rfl rfl (by decide) (by decide) (fun H12 locs13 hP hD hS => ?_)
    have hP : va_P D vwCl [(hfa, .inr (0, [.ref hfp, .ref hft, .int r_10.1, .long fO, .long fG])), (hfp, .inl (cy 1, 9, .inr (.inl r_10.2.1))), (hft, .inl (cy 0, 9, .inl r_10.2.2))] H12 := hP.sub [0, 1, 2] rfl
    have hD : va_D A [(hfa, .inr (0, [.ref hfp, .ref hft, .int r_10.1, .long fO, .long fG])), (hfp, .inl (cy 1, 9, .inr (.inl r_10.2.1))), (hft, .inl (cy 0, 9, .inl r_10.2.2))] := hD.sub [0, 1, 2] (by decide) rfl
    refine lv_iinc (v := (x12 + (1 : Int32))) (lv' := [(12, .int (x12 + (1 : Int32))), (0, .ref hfa), (1, .int x1), (2, .long x2), (4, .int x4), (5, .int x5), (6, .long x6), (8, .int x8), (9, .long x9), (11, .int x11)]) hx hb dX0_split_77 hl (k := 9) rfl rfl (by decide) rfl (fun ls hl => ?_)
    refine lv_goto (tgt := 62) hx hb dX0_split_80 (by decide) ?_
    exact hself _ _ _ _ _ _ _ hP hD hS (lv_sub hl [1, 2, 3, 4, 5, 6, 7, 8, 9, 0] rfl) hf
theorem wX0_split_L62 {p : Program} {l : Launch} {e : Env} {s : State} {m : MethodId} {args : Array Value} {below : List Frame} {meth : Method} {c : Code} {D : va_G} {cy : Nat → ClassId} {A : Nat → Prop} {hfa hfp hft : Nat} {fO : Int64} {fG : Int64} {r0 : Int32 × (Nat → Int64) × (Nat → Int32)} (E0 : En p m c cX0_split 13 s args wsX0_split RX0 meth none D cy) (N : Nat) (x1 : Int32) (x2 : Int64) (x4 : Int32) (x5 : Int32) (x6 : Int64) (x8 : Int32) (x9 : Int64) (x11 : Int32) (hA : ∀ q, s.heap.size ≤ q → A q) (k : Int32 → (Nat → Int64) → (Nat → Int32) → Option (Int32 × (Nat → Int64) × (Nat → Int32))) (hk : ∀ (fN : Int32) (fP : Nat → Int64) (fT : Nat → Int32) (H : Heap) (locs : List Loc) (ls : Array Slot), va_P D vwCl [(hfa, .inr (0, [.ref hfp, .ref hft, .int fN, .long fO, .long fG])), (hfp, .inl (cy 1, 9, .inr (.inl fP))), (hft, .inl (cy 0, 9, .inl fT))] H → va_D A [(hfa, .inr (0, [.ref hfp, .ref hft, .int fN, .long fO, .long fG])), (hfp, .inl (cy 1, 9, .inr (.inl fP))), (hft, .inl (cy 0, 9, .inl fT))] → va_S A s.heap H locs → lv_has ls 13 [(0, .ref hfa), (1, .int x1), (2, .long x2), (4, .int x4), (5, .int x5), (6, .long x6), (8, .int x8)] → k fN fP fT = some r0 → GX0_split p l e s m args below meth c D cy A hfa hfp hft fO fG r0 H locs (F0 m 83 ls [])) : ∀ (n : Nat), ∀ (fN : Int32) (fP : Nat → Int64) (fT : Nat → Int32) (x12 : Int32) (H : Heap) (locs : List Loc) (ls : Array Slot), va_P D vwCl [(hfa, .inr (0, [.ref hfp, .ref hft, .int fN, .long fO, .long fG])), (hfp, .inl (cy 1, 9, .inr (.inl fP))), (hft, .inl (cy 0, 9, .inl fT))] H → va_D A [(hfa, .inr (0, [.ref hfp, .ref hft, .int fN, .long fO, .long fG])), (hfp, .inl (cy 1, 9, .inr (.inl fP))), (hft, .inl (cy 0, 9, .inl fT))] → va_S A s.heap H locs → lv_has ls 13 [(0, .ref hfa), (1, .int x1), (2, .long x2), (4, .int x4), (5, .int x5), (6, .long x6), (8, .int x8), (9, .long x9), (11, .int x11), (12, .int x12)] → fX0_split_L62 N x1 x2 x4 x5 x6 x8 x9 x11 k n fN fP fT x12 = some r0 → GX0_split p l e s m args below meth c D cy A hfa hfp hft fO fG r0 H locs (F0 m 62 ls []) := by
  intro n
  induction n with
  | zero => intro fN fP fT x12 H locs ls hP hD hS hl hf; cases hf
  | succ n ih => exact wX0_split_B62 E0 N x1 x2 x4 x5 x6 x8 x9 x11 hA _ ih k hk
set_option maxHeartbeats 4000000 in
set_option maxRecDepth 100000 in
theorem wX0_split_B12 {p : Program} {l : Launch} {e : Env} {s : State} {m : MethodId} {args : Array Value} {below : List Frame} {meth : Method} {c : Code} {D : va_G} {cy : Nat → ClassId} {A : Nat → Prop} {hfa hfp hft : Nat} {fO : Int64} {fG : Int64} {r0 : Int32 × (Nat → Int64) × (Nat → Int32)} (E0 : En p m c cX0_split 13 s args wsX0_split RX0 meth none D cy) (N : Nat) (x1 : Int32) (x2 : Int64) (x4 : Int32) (x5 : Int32) (hA : ∀ q, s.heap.size ≤ q → A q) (self : Int32 → (Nat → Int64) → (Nat → Int32) → Int64 → Int32 → Option (Int32 × (Nat → Int64) × (Nat → Int32))) (hself : ∀ (fN : Int32) (fP : Nat → Int64) (fT : Nat → Int32) (x6 : Int64) (x8 : Int32) (H : Heap) (locs : List Loc) (ls : Array Slot), va_P D vwCl [(hfa, .inr (0, [.ref hfp, .ref hft, .int fN, .long fO, .long fG])), (hfp, .inl (cy 1, 9, .inr (.inl fP))), (hft, .inl (cy 0, 9, .inl fT))] H → va_D A [(hfa, .inr (0, [.ref hfp, .ref hft, .int fN, .long fO, .long fG])), (hfp, .inl (cy 1, 9, .inr (.inl fP))), (hft, .inl (cy 0, 9, .inl fT))] → va_S A s.heap H locs → lv_has ls 13 [(0, .ref hfa), (1, .int x1), (2, .long x2), (4, .int x4), (5, .int x5), (6, .long x6), (8, .int x8)] → self fN fP fT x6 x8 = some r0 → GX0_split p l e s m args below meth c D cy A hfa hfp hft fO fG r0 H locs (F0 m 12 ls [])) (k : Int32 → (Nat → Int64) → (Nat → Int32) → Option (Int32 × (Nat → Int64) × (Nat → Int32))) (hk : ∀ (fN : Int32) (fP : Nat → Int64) (fT : Nat → Int32) (H : Heap) (locs : List Loc) (ls : Array Slot), va_P D vwCl [(hfa, .inr (0, [.ref hfp, .ref hft, .int fN, .long fO, .long fG])), (hfp, .inl (cy 1, 9, .inr (.inl fP))), (hft, .inl (cy 0, 9, .inl fT))] H → va_D A [(hfa, .inr (0, [.ref hfp, .ref hft, .int fN, .long fO, .long fG])), (hfp, .inl (cy 1, 9, .inr (.inl fP))), (hft, .inl (cy 0, 9, .inl fT))] → va_S A s.heap H locs → lv_has ls 13 [] → k fN fP fT = some r0 → GX0_split p l e s m args below meth c D cy A hfa hfp hft fO fG r0 H locs (F0 m 89 ls [])) : ∀ (fN : Int32) (fP : Nat → Int64) (fT : Nat → Int32) (x6 : Int64) (x8 : Int32) (H : Heap) (locs : List Loc) (ls : Array Slot), va_P D vwCl [(hfa, .inr (0, [.ref hfp, .ref hft, .int fN, .long fO, .long fG])), (hfp, .inl (cy 1, 9, .inr (.inl fP))), (hft, .inl (cy 0, 9, .inl fT))] H → va_D A [(hfa, .inr (0, [.ref hfp, .ref hft, .int fN, .long fO, .long fG])), (hfp, .inl (cy 1, 9, .inr (.inl fP))), (hft, .inl (cy 0, 9, .inl fT))] → va_S A s.heap H locs → lv_has ls 13 [(0, .ref hfa), (1, .int x1), (2, .long x2), (4, .int x4), (5, .int x5), (6, .long x6), (8, .int x8)] → fX0_split_B12 N x1 x2 x4 x5 self k fN fP fT x6 x8 = some r0 → GX0_split p l e s m args below meth c D cy A hfa hfp hft fO fG r0 H locs (F0 m 12 ls []) := by
  obtain ⟨⟨hx, hb, hml, hown, hts⟩, hr, hlocks, hB⟩ := id E0
  have hK := hB.1
  have hN := hB.2
  intro fN fP fT x6 x8 H locs ls hP hD hS hl hf
  unfold fX0_split_B12 at hf
  refine lv_iload hx hb dX0_split_12 (lv_at hl 6 rfl) ?_
  refine lv_iload hx hb dX0_split_14 (lv_at hl 4 rfl) ?_
  refine lv_icmp_ge (tgt := 89) hx hb dX0_split_16 (by decide) (fun c_3 => ?_) (fun c_3 => ?_)
  · have hf := ite_t hf c_3
    exact hk _ _ _ _ _ _ hP hD hS (lv_sub hl [] rfl) hf
  · have hf := ite_f hf c_3
    refine lv_aload_n hx hb dX0_split_19 rfl (lv_at hl 0 rfl) ?_
    refine va_get (D := D) (ci := 0) (v := .int fN) (C := RX0) (T := TX0) (N := 5) hx hb hts inX0_split_X0 hown hK hP 0 rfl rfl 2 (by decide) (hts _ mX0_split_2) (fun _ h9 => h9) rfl dX0_split_20 ?_
    refine lv_iload_n hx hb dX0_split_23 rfl (lv_at hl 1 rfl) ?_
    refine lv_isub hx hb dX0_split_24 ?_
    refine lv_iload hx hb dX0_split_25 (lv_at hl 3 rfl) ?_
    refine lv_imul hx hb dX0_split_27 ?_
    refine lv_iload hx hb dX0_split_28 (lv_at hl 4 rfl) ?_
    refine lv_icmp_ge (tgt := 89) hx hb dX0_split_30 (by decide) (fun c_4 => ?_) (fun c_4 => ?_)
    · have hf := ite_t hf c_4
      exact hk _ _ _ _ _ _ hP hD hS (lv_sub hl [] rfl) hf
    · have hf := ite_f hf c_4
      refine lv_lload hx hb dX0_split_33 (lv_at hl 5 rfl) ?_
      refine lv_lload_n hx hb dX0_split_35 rfl (lv_at hl 2 rfl) ?_
      refine lv_iload hx hb dX0_split_36 (lv_at hl 4 rfl) ?_
      obtain ⟨r_5, h_6, hf⟩ := bind_some hf
      have hP_r_5 : va_P D vwCl [] H := hP.sub [] rfl
      refine cz_l (va_runSN (As := [.long x6, .long x2, .int x5]) (rest := []) ⟨hx, hb, hml, hown, hts⟩ (ctX2_timesX l D cy N   x6 x2 x5 r_5 h_6) ⟨va_cnB 3 hts gX0_split_X2_timesX_n65 rfl rfl rfl (nwX0_65 hN) (hts _ mX0_split_0) (by decide +kernel) ⟨Nat.le_of_ble_eq_true rfl, Nat.le_of_ble_eq_true rfl⟩, hts _ mX0_split_3, trivial⟩ (preS_rd [.long x6, .long x2, .int x5] hP_r_5 hB) rfl rfl hl.1 rfl (lv_room (Nat.le_of_ble_eq_true rfl)) dX0_split_38 ⟨Nat.zero_le _, Nat.zero_le _⟩) ?_
      refine lv_lstore (lv' := [(6, .long r_5), (0, .ref hfa), (1, .int x1), (2, .long x2), (4, .int x4), (5, .int x5), (8, .int x8)]) hx hb dX0_split_41 hl (by decide) rfl (fun ls hl => ?_)
      refine lv_lload hx hb dX0_split_43 (lv_at hl 0 rfl) ?_
      refine lv_iload hx hb dX0_split_45 (lv_at hl 4 rfl) ?_
      refine lv_lload_n hx hb dX0_split_47 rfl (lv_at hl 3 rfl) ?_
      obtain ⟨r_7, h_8, hf⟩ := bind_some hf
      have hP_r_7 : va_P D vwCl [] H := hP.sub [] rfl
      refine cz_l (va_runSN (As := [.long r_5, .int x4, .long x2]) (rest := []) ⟨hx, hb, hml, hown, hts⟩ (ctX2_trace l D cy N   r_5 x4 x2 r_7 h_8) ⟨va_cnB 3 hts gX0_split_X2_trace_n69 rfl rfl rfl (nwX0_69 hN) (hts _ mX0_split_0) (by decide +kernel) ⟨Nat.le_of_ble_eq_true rfl, Nat.le_of_ble_eq_true rfl⟩, hts _ mX0_split_4, trivial⟩ (preS_rd [.long r_5, .int x4, .long x2] hP_r_7 hB) rfl rfl hl.1 rfl (lv_room (Nat.le_of_ble_eq_true rfl)) dX0_split_48 ⟨Nat.zero_le _, Nat.zero_le _⟩) ?_
      refine lv_lstore (lv' := [(9, .long r_7), (6, .long r_5), (0, .ref hfa), (1, .int x1), (2, .long x2), (4, .int x4), (5, .int x5), (8, .int x8)]) hx hb dX0_split_51 hl (by decide) rfl (fun ls hl => ?_)
      refine lv_aload_n hx hb dX0_split_53 rfl (lv_at hl 2 rfl) ?_
      refine va_get (D := D) (ci := 0) (v := .int fN) (C := RX0) (T := TX0) (N := 5) hx hb hts inX0_split_X0 hown hK hP 0 rfl rfl 2 (by decide) (hts _ mX0_split_2) (fun _ h9 => h9) rfl dX0_split_54 ?_
      refine lv_istore (lv' := [(11, .int fN), (9, .long r_7), (6, .long r_5), (0, .ref hfa), (1, .int x1), (2, .long x2), (4, .int x4), (5, .int x5), (8, .int x8)]) hx hb dX0_split_57 hl (by decide) rfl (fun ls hl => ?_)
      refine lv_iload_n hx hb dX0_split_59 rfl (lv_at hl 4 rfl) ?_
      refine lv_istore (lv' := [(12, .int x1), (11, .int fN), (9, .long r_7), (6, .long r_5), (0, .ref hfa), (1, .int x1), (2, .long x2), (4, .int x4), (5, .int x5), (8, .int x8)]) hx hb dX0_split_60 hl (by decide) rfl (fun ls hl => ?_)
      refine wX0_split_L62 E0 N x1 x2 x4 x5 r_5 x8 r_7 fN hA _ (fun fN_14 fP_15 fT_16 H17 locs18 ls hP hD hS hl hf => ?_) N _ _ _ _ _ _ _ hP hD hS (lv_sub hl [4, 5, 6, 7, 8, 3, 9, 2, 1, 0] rfl) hf
      refine lv_iinc (v := (x8 + (1 : Int32))) (lv' := [(8, .int (x8 + (1 : Int32))), (0, .ref hfa), (1, .int x1), (2, .long x2), (4, .int x4), (5, .int x5), (6, .long r_5)]) hx hb dX0_split_83 hl (k := 6) rfl rfl (by decide) rfl (fun ls hl => ?_)
      refine lv_goto (tgt := 12) hx hb dX0_split_86 (by decide) ?_
      exact hself _ _ _ _ _ _ _ _ hP hD hS (lv_sub hl [1, 2, 3, 4, 5, 6, 0] rfl) hf
theorem wX0_split_L12 {p : Program} {l : Launch} {e : Env} {s : State} {m : MethodId} {args : Array Value} {below : List Frame} {meth : Method} {c : Code} {D : va_G} {cy : Nat → ClassId} {A : Nat → Prop} {hfa hfp hft : Nat} {fO : Int64} {fG : Int64} {r0 : Int32 × (Nat → Int64) × (Nat → Int32)} (E0 : En p m c cX0_split 13 s args wsX0_split RX0 meth none D cy) (N : Nat) (x1 : Int32) (x2 : Int64) (x4 : Int32) (x5 : Int32) (hA : ∀ q, s.heap.size ≤ q → A q) (k : Int32 → (Nat → Int64) → (Nat → Int32) → Option (Int32 × (Nat → Int64) × (Nat → Int32))) (hk : ∀ (fN : Int32) (fP : Nat → Int64) (fT : Nat → Int32) (H : Heap) (locs : List Loc) (ls : Array Slot), va_P D vwCl [(hfa, .inr (0, [.ref hfp, .ref hft, .int fN, .long fO, .long fG])), (hfp, .inl (cy 1, 9, .inr (.inl fP))), (hft, .inl (cy 0, 9, .inl fT))] H → va_D A [(hfa, .inr (0, [.ref hfp, .ref hft, .int fN, .long fO, .long fG])), (hfp, .inl (cy 1, 9, .inr (.inl fP))), (hft, .inl (cy 0, 9, .inl fT))] → va_S A s.heap H locs → lv_has ls 13 [] → k fN fP fT = some r0 → GX0_split p l e s m args below meth c D cy A hfa hfp hft fO fG r0 H locs (F0 m 89 ls [])) : ∀ (n : Nat), ∀ (fN : Int32) (fP : Nat → Int64) (fT : Nat → Int32) (x6 : Int64) (x8 : Int32) (H : Heap) (locs : List Loc) (ls : Array Slot), va_P D vwCl [(hfa, .inr (0, [.ref hfp, .ref hft, .int fN, .long fO, .long fG])), (hfp, .inl (cy 1, 9, .inr (.inl fP))), (hft, .inl (cy 0, 9, .inl fT))] H → va_D A [(hfa, .inr (0, [.ref hfp, .ref hft, .int fN, .long fO, .long fG])), (hfp, .inl (cy 1, 9, .inr (.inl fP))), (hft, .inl (cy 0, 9, .inl fT))] → va_S A s.heap H locs → lv_has ls 13 [(0, .ref hfa), (1, .int x1), (2, .long x2), (4, .int x4), (5, .int x5), (6, .long x6), (8, .int x8)] → fX0_split_L12 N x1 x2 x4 x5 k n fN fP fT x6 x8 = some r0 → GX0_split p l e s m args below meth c D cy A hfa hfp hft fO fG r0 H locs (F0 m 12 ls []) := by
  intro n
  induction n with
  | zero => intro fN fP fT x6 x8 H locs ls hP hD hS hl hf; cases hf
  | succ n ih => exact wX0_split_B12 E0 N x1 x2 x4 x5 hA _ ih k hk
set_option maxHeartbeats 4000000 in
set_option maxRecDepth 100000 in
theorem ctX0_split (l : Launch) (D : va_G) (cy : Nat → ClassId) (N : Nat) (hfa hfp hft : Nat) (sz : Nat) (fN : Int32) (fO : Int64) (fG : Int64) (fP : Nat → Int64) (fT : Nat → Int32) (x1 : Int32) (x2 : Int64) (x4 : Int32) (r0 : Int32 × (Nat → Int64) × (Nat → Int32)) (hf : fX0_split N fN fP fT x1 x2 x4 = some r0) : Met l yX0_split wsX0_split rX0_split (va_Pc [.ref hfa, .int x1, .long x2, .int x4] (Wr D cy [(hfa, .inr (0, [.ref hfp, .ref hft, .int fN, .long fO, .long fG])), (hfp, .inl (cy 1, 9, .inr (.inl fP))), (hft, .inl (cy 0, 9, .inl fT))] sz)) (Qwv D (va_A [(hfa, .inr (0, [.ref hfp, .ref hft, .int fN, .long fO, .long fG])), (hfp, .inl (cy 1, 9, .inr (.inl fP))), (hft, .inl (cy 0, 9, .inl fT))] sz) [(hfa, .inr (0, [.ref hfp, .ref hft, .int r0.1, .long fO, .long fG])), (hfp, .inl (cy 1, 9, .inr (.inl r0.2.1))), (hft, .inl (cy 0, 9, .inl r0.2.2))]) 0 0 (va_A [(hfa, .inr (0, [.ref hfp, .ref hft, .int fN, .long fO, .long fG])), (hfp, .inl (cy 1, 9, .inr (.inl fP))), (hft, .inl (cy 0, 9, .inl fT))] sz) := by
  refine Met.ofW (cc := cX0_split) (maxL := 13) (ret := none) (by decide) rfl ?_
  intro p e s m args below meth c s₁ B hml hv
  obtain ⟨rfl, hsz, hP, hD0, hB⟩ := hv
  have hx := B.exec
  have hb := B.bytes
  have hr := B.returns
  have hts := atoms_spec (ws := wsX0_split) B.pre
  have hown : s.vm.findClass RX0 = some m.cls := findClass_of_methodNamed B.named
  have hlocks := B.notSynchronized
  have hK := hB.1
  have hN := hB.2
  subst hsz
  have hD := hD0.self (sz := s.heap.size)
  have hA : ∀ q : Nat, s.heap.size ≤ q → va_A [(hfa, .inr (0, [.ref hfp, .ref hft, .int fN, .long fO, .long fG])), (hfp, .inl (cy 1, 9, .inr (.inl fP))), (hft, .inl (cy 0, 9, .inl fT))] s.heap.size q := fun q h => Or.inr h
  generalize va_A [(hfa, .inr (0, [.ref hfp, .ref hft, .int fN, .long fO, .long fG])), (hfp, .inl (cy 1, 9, .inr (.inl fP))), (hft, .inl (cy 0, 9, .inl fT))] s.heap.size = A at hD hA ⊢
  have hS : va_S A s.heap s.heap [] := va_S.rf
  have hl := lv_entry ([.ref hfa, .int x1, .long x2, .int x4]) (n := 13) (Nat.le_of_ble_eq_true rfl)
  rw [lg_entry_eq]
  generalize (lg_sl ([.ref hfa, .int x1, .long x2, .int x4]) ++ List.replicate (13 - (lg_sl ([.ref hfa, .int x1, .long x2, .int x4])).length) Slot.unset).toArray = ls at hl ⊢
  have hl : lv_has ls 13 [(0, .ref hfa), (1, .int x1), (2, .long x2), (4, .int x4)] := hl
  have E0 : En p m c cX0_split 13 s ([.ref hfa, .int x1, .long x2, .int x4] : List Value).toArray wsX0_split RX0 meth none D cy := ⟨⟨hx, hb, hml, hown, hts⟩, hr, hlocks, hB⟩
  unfold fX0_split at hf
  refine lv_lload_n hx hb dX0_split_0 rfl (lv_at hl 2 rfl) ?_
  obtain ⟨r_1, h_2, hf⟩ := bind_some hf
  have hP_r_1 : va_P D vwCl [] s.heap := hP.sub [] rfl
  refine cz_i (va_runSN (As := [.long x2]) (rest := []) ⟨hx, hb, hml, hown, hts⟩ (ctX2_degree l D cy N   x2 r_1 h_2) ⟨va_cnB 1 hts gX0_split_X2_degree_n34 rfl rfl rfl (nwX0_34 hN) (hts _ mX0_split_0) (by decide +kernel) ⟨Nat.le_of_ble_eq_true rfl, Nat.le_of_ble_eq_true rfl⟩, hts _ mX0_split_1, trivial⟩ (preS_rd [.long x2] hP_r_1 hB) rfl rfl hl.1 rfl (lv_room (Nat.le_of_ble_eq_true rfl)) dX0_split_1 ⟨Nat.zero_le _, Nat.zero_le _⟩) ?_
  refine lv_istore (lv' := [(5, .int r_1), (0, .ref hfa), (1, .int x1), (2, .long x2), (4, .int x4)]) hx hb dX0_split_4 hl (by decide) rfl (fun ls hl => ?_)
  refine lv_lconst (v := (1 : Int64)) hx hb dX0_split_6 (by decide) ?_
  refine lv_lstore (lv' := [(6, .long (1 : Int64)), (5, .int r_1), (0, .ref hfa), (1, .int x1), (2, .long x2), (4, .int x4)]) hx hb dX0_split_7 hl (by decide) rfl (fun ls hl => ?_)
  refine lv_iconst (v := (1 : Int32)) hx hb dX0_split_9 (by decide) ?_
  refine lv_istore (lv' := [(8, .int (1 : Int32)), (6, .long (1 : Int64)), (5, .int r_1), (0, .ref hfa), (1, .int x1), (2, .long x2), (4, .int x4)]) hx hb dX0_split_10 hl (by decide) rfl (fun ls hl => ?_)
  refine wX0_split_L12 E0 N x1 x2 x4 r_1 hA _ (fun fN_19 fP_20 fT_21 H22 locs23 ls hP hD hS hl hf => ?_) N _ _ _ _ _ _ _ _ hP hD hS (lv_sub hl [3, 4, 5, 6, 2, 1, 0] rfl) hf
  cases hf
  exact W.vret hx hb hr (fun t ht hW => ⟨⟨(), rfl, trivial, by rw [ht]; exact hP, hD⟩, hS.F ht⟩) hS.2.2 dX0_split_89
/-! SumForms$Factors.sort(I)V -/
abbrev rX0_sort : Room := { frames := 0, cells := 0, slots := 0, locals := 0 }
theorem mX0_sort_0 : Cond.fieldLink RX0 19 "SumForms$Factors" "size" "I" ∈ wsX0_sort := by decide +kernel
theorem mX0_sort_1 : Cond.fieldLink RX0 11 "SumForms$Factors" "polynomials" "[J" ∈ wsX0_sort := by decide +kernel
theorem inX0_sort_X0 : ∀ w ∈ u_ws RX0 TX0 5, w ∈ wsX0_sort := by decide +kernel
abbrev GX0_sort (p : Program) (l : Launch) (e : Env) (s : State) (m : MethodId) (args : Array Value) (below : List Frame) (meth : Method) (c : Code) (D : va_G) (cy : Nat → ClassId) (A : Nat → Prop) (hfa : Nat) (hfp : Nat) (hft : Nat) (fN : Int32) (fO : Int64) (fG : Int64) (r0 : (Nat → Int64)) (H : Heap) (locs : List Loc) (fr : JFrame) : Prop := W p l e (headSpec wsX0_sort rX0_sort).room s m args below meth c H locs 0 0 (MQ below (Qwv D A [(hfa, .inr (0, [.ref hfp, .ref hft, .int fN, .long fO, .long fG])), (hfp, .inl (cy 1, 9, .inr (.inl r0)))]) args s 0 0 A) fr
def fX0_sort_B14 (N : Nat) (fN : Int32) (x1 : Int32) (x2 : Int32) (self : (Nat → Int64) → Int32 → Option ((Nat → Int64))) (k : (Nat → Int64) → Option ((Nat → Int64))) (fP : Nat → Int64) (x3 : Int32) : Option ((Nat → Int64)) := (if x3 ≤ x1 then (k fP) else (if OOB (x3 - (1 : Int32)) 9 then none else (if OOB x3 9 then none else (if (fP (x3 - (1 : Int32)).toNatClampNeg) ≤ (fP x3.toNatClampNeg) then (k fP) else (if OOB (x3 - (1 : Int32)) 9 then none else (if OOB x3 9 then none else (if OOB (x3 - (1 : Int32)) 9 then none else (if OOB x3 9 then none else (self (vp_updL (vp_updL fP (x3 - (1 : Int32)).toNatClampNeg (fP x3.toNatClampNeg)) x3.toNatClampNeg (fP (x3 - (1 : Int32)).toNatClampNeg)) (x3 + (-1 : Int32)))))))))))
def fX0_sort_L14 (N : Nat) (fN : Int32) (x1 : Int32) (x2 : Int32) (k : (Nat → Int64) → Option ((Nat → Int64))) : Nat → (Nat → Int64) → Int32 → Option ((Nat → Int64))
  | 0 => fun _ _ => none
  | n + 1 => fun fP x3 => fX0_sort_B14 N fN x1 x2 (fX0_sort_L14 N fN x1 x2 k n) k fP x3
def fX0_sort_B4 (N : Nat) (fN : Int32) (x1 : Int32) (self : (Nat → Int64) → Int32 → Option ((Nat → Int64))) (k : (Nat → Int64) → Option ((Nat → Int64))) (fP : Nat → Int64) (x2 : Int32) : Option ((Nat → Int64)) := (if fN ≤ x2 then (k fP) else (fX0_sort_L14 N fN x1 x2 (fun fP_14 => (self fP_14 (x2 + (1 : Int32)))) N fP x2))
def fX0_sort_L4 (N : Nat) (fN : Int32) (x1 : Int32) (k : (Nat → Int64) → Option ((Nat → Int64))) : Nat → (Nat → Int64) → Int32 → Option ((Nat → Int64))
  | 0 => fun _ _ => none
  | n + 1 => fun fP x2 => fX0_sort_B4 N fN x1 (fX0_sort_L4 N fN x1 k n) k fP x2
def fX0_sort (N : Nat) (fN : Int32) (fP : Nat → Int64) (x1 : Int32) : Option ((Nat → Int64)) := (fX0_sort_L4 N fN x1 (fun fP_17 => (some fP_17)) N fP (x1 + (1 : Int32)))
set_option maxHeartbeats 4000000 in
set_option maxRecDepth 100000 in
theorem wX0_sort_B14 {p : Program} {l : Launch} {e : Env} {s : State} {m : MethodId} {args : Array Value} {below : List Frame} {meth : Method} {c : Code} {D : va_G} {cy : Nat → ClassId} {A : Nat → Prop} {hfa hfp hft : Nat} {fO : Int64} {fG : Int64} {r0 : (Nat → Int64)} (E0 : En p m c cX0_sort 6 s args wsX0_sort RX0 meth none D cy) (N : Nat) (fN : Int32) (x1 : Int32) (x2 : Int32) (hA : ∀ q, s.heap.size ≤ q → A q) (self : (Nat → Int64) → Int32 → Option ((Nat → Int64))) (hself : ∀ (fP : Nat → Int64) (x3 : Int32) (H : Heap) (locs : List Loc) (ls : Array Slot), va_P D vwCl [(hfa, .inr (0, [.ref hfp, .ref hft, .int fN, .long fO, .long fG])), (hfp, .inl (cy 1, 9, .inr (.inl fP)))] H → va_D A [(hfa, .inr (0, [.ref hfp, .ref hft, .int fN, .long fO, .long fG])), (hfp, .inl (cy 1, 9, .inr (.inl fP)))] → va_S A s.heap H locs → lv_has ls 6 [(0, .ref hfa), (1, .int x1), (2, .int x2), (3, .int x3)] → self fP x3 = some r0 → GX0_sort p l e s m args below meth c D cy A hfa hfp hft fN fO fG r0 H locs (F0 m 14 ls [])) (k : (Nat → Int64) → Option ((Nat → Int64))) (hk : ∀ (fP : Nat → Int64) (H : Heap) (locs : List Loc) (ls : Array Slot), va_P D vwCl [(hfa, .inr (0, [.ref hfp, .ref hft, .int fN, .long fO, .long fG])), (hfp, .inl (cy 1, 9, .inr (.inl fP)))] H → va_D A [(hfa, .inr (0, [.ref hfp, .ref hft, .int fN, .long fO, .long fG])), (hfp, .inl (cy 1, 9, .inr (.inl fP)))] → va_S A s.heap H locs → lv_has ls 6 [(0, .ref hfa), (1, .int x1), (2, .int x2)] → k fP = some r0 → GX0_sort p l e s m args below meth c D cy A hfa hfp hft fN fO fG r0 H locs (F0 m 75 ls [])) : ∀ (fP : Nat → Int64) (x3 : Int32) (H : Heap) (locs : List Loc) (ls : Array Slot), va_P D vwCl [(hfa, .inr (0, [.ref hfp, .ref hft, .int fN, .long fO, .long fG])), (hfp, .inl (cy 1, 9, .inr (.inl fP)))] H → va_D A [(hfa, .inr (0, [.ref hfp, .ref hft, .int fN, .long fO, .long fG])), (hfp, .inl (cy 1, 9, .inr (.inl fP)))] → va_S A s.heap H locs → lv_has ls 6 [(0, .ref hfa), (1, .int x1), (2, .int x2), (3, .int x3)] → fX0_sort_B14 N fN x1 x2 self k fP x3 = some r0 → GX0_sort p l e s m args below meth c D cy A hfa hfp hft fN fO fG r0 H locs (F0 m 14 ls []) := by
  obtain ⟨⟨hx, hb, hml, hown, hts⟩, hr, hlocks, hB⟩ := id E0
  have hK := hB.1
  have hN := hB.2
  intro fP x3 H locs ls hP hD hS hl hf
  unfold fX0_sort_B14 at hf
  refine lv_iload_n hx hb dX0_sort_14 rfl (lv_at hl 3 rfl) ?_
  refine lv_iload_n hx hb dX0_sort_15 rfl (lv_at hl 1 rfl) ?_
  refine lv_icmp_le (tgt := 75) hx hb dX0_sort_16 (by decide) (fun c_2 => ?_) (fun c_2 => ?_)
  · have hf := ite_t hf c_2
    exact hk _ _ _ _ hP hD hS (lv_sub hl [0, 1, 2] rfl) hf
  · have hf := ite_f hf c_2
    refine lv_aload_n hx hb dX0_sort_19 rfl (lv_at hl 0 rfl) ?_
    refine va_get (D := D) (ci := 0) (v := .ref hfp) (C := RX0) (T := TX0) (N := 5) hx hb hts inX0_sort_X0 hown hK hP 0 rfl rfl 0 (by decide) (hts _ mX0_sort_1) (fun _ h9 => h9) rfl dX0_sort_20 ?_
    refine lv_iload_n hx hb dX0_sort_23 rfl (lv_at hl 3 rfl) ?_
    refine lv_iconst (v := (1 : Int32)) hx hb dX0_sort_24 (by decide) ?_
    refine lv_isub hx hb dX0_sort_25 ?_
    obtain ⟨b_3, hf⟩ := ite_n hf
    refine va_lald hx hb hK hP 1 1 rfl rfl b_3 dX0_sort_26 ?_
    refine lv_aload_n hx hb dX0_sort_27 rfl (lv_at hl 0 rfl) ?_
    refine va_get (D := D) (ci := 0) (v := .ref hfp) (C := RX0) (T := TX0) (N := 5) hx hb hts inX0_sort_X0 hown hK hP 0 rfl rfl 0 (by decide) (hts _ mX0_sort_1) (fun _ h9 => h9) rfl dX0_sort_28 ?_
    refine lv_iload_n hx hb dX0_sort_31 rfl (lv_at hl 3 rfl) ?_
    obtain ⟨b_4, hf⟩ := ite_n hf
    refine va_lald hx hb hK hP 1 1 rfl rfl b_4 dX0_sort_32 ?_
    refine zz_lc_le (tgt := 75) hx hb dX0_sort_33 dX0_sort_34 (by decide) (fun c_5 => ?_) (fun c_5 => ?_)
    · have hf := ite_t hf c_5
      exact hk _ _ _ _ hP hD hS (lv_sub hl [0, 1, 2] rfl) hf
    · have hf := ite_f hf c_5
      refine lv_aload_n hx hb dX0_sort_37 rfl (lv_at hl 0 rfl) ?_
      refine va_get (D := D) (ci := 0) (v := .ref hfp) (C := RX0) (T := TX0) (N := 5) hx hb hts inX0_sort_X0 hown hK hP 0 rfl rfl 0 (by decide) (hts _ mX0_sort_1) (fun _ h9 => h9) rfl dX0_sort_38 ?_
      refine lv_iload_n hx hb dX0_sort_41 rfl (lv_at hl 3 rfl) ?_
      refine lv_iconst (v := (1 : Int32)) hx hb dX0_sort_42 (by decide) ?_
      refine lv_isub hx hb dX0_sort_43 ?_
      obtain ⟨b_6, hf⟩ := ite_n hf
      refine va_lald hx hb hK hP 1 1 rfl rfl b_6 dX0_sort_44 ?_
      refine lv_lstore (lv' := [(4, .long (fP (x3 - (1 : Int32)).toNatClampNeg)), (0, .ref hfa), (1, .int x1), (2, .int x2), (3, .int x3)]) hx hb dX0_sort_45 hl (by decide) rfl (fun ls hl => ?_)
      refine lv_aload_n hx hb dX0_sort_47 rfl (lv_at hl 1 rfl) ?_
      refine va_get (D := D) (ci := 0) (v := .ref hfp) (C := RX0) (T := TX0) (N := 5) hx hb hts inX0_sort_X0 hown hK hP 0 rfl rfl 0 (by decide) (hts _ mX0_sort_1) (fun _ h9 => h9) rfl dX0_sort_48 ?_
      refine lv_iload_n hx hb dX0_sort_51 rfl (lv_at hl 4 rfl) ?_
      refine lv_iconst (v := (1 : Int32)) hx hb dX0_sort_52 (by decide) ?_
      refine lv_isub hx hb dX0_sort_53 ?_
      refine lv_aload_n hx hb dX0_sort_54 rfl (lv_at hl 1 rfl) ?_
      refine va_get (D := D) (ci := 0) (v := .ref hfp) (C := RX0) (T := TX0) (N := 5) hx hb hts inX0_sort_X0 hown hK hP 0 rfl rfl 0 (by decide) (hts _ mX0_sort_1) (fun _ h9 => h9) rfl dX0_sort_55 ?_
      refine lv_iload_n hx hb dX0_sort_58 rfl (lv_at hl 4 rfl) ?_
      obtain ⟨b_7, hf⟩ := ite_n hf
      refine va_lald hx hb hK hP 1 1 rfl rfl b_7 dX0_sort_59 ?_
      obtain ⟨b_8, hf⟩ := ite_n hf
      refine va_last hx hb hK hP hD hS 1 1 rfl rfl b_8 dX0_sort_60 (fun H9 locs10 hP hD hS => ?_)
      have hP : va_P D vwCl [(hfa, .inr (0, [.ref hfp, .ref hft, .int fN, .long fO, .long fG])), (hfp, .inl (cy 1, 9, .inr (.inl (vp_updL fP (x3 - (1 : Int32)).toNatClampNeg (fP x3.toNatClampNeg)))))] H9 := hP
      have hD : va_D A [(hfa, .inr (0, [.ref hfp, .ref hft, .int fN, .long fO, .long fG])), (hfp, .inl (cy 1, 9, .inr (.inl (vp_updL fP (x3 - (1 : Int32)).toNatClampNeg (fP x3.toNatClampNeg)))))] := hD
      refine lv_aload_n hx hb dX0_sort_61 rfl (lv_at hl 1 rfl) ?_
      refine va_get (D := D) (ci := 0) (v := .ref hfp) (C := RX0) (T := TX0) (N := 5) hx hb hts inX0_sort_X0 hown hK hP 0 rfl rfl 0 (by decide) (hts _ mX0_sort_1) (fun _ h9 => h9) rfl dX0_sort_62 ?_
      refine lv_iload_n hx hb dX0_sort_65 rfl (lv_at hl 4 rfl) ?_
      refine lv_lload hx hb dX0_sort_66 (lv_at hl 0 rfl) ?_
      obtain ⟨b_11, hf⟩ := ite_n hf
      refine va_last hx hb hK hP hD hS 1 1 rfl rfl b_11 dX0_sort_68 (fun H12 locs13 hP hD hS => ?_)
      have hP : va_P D vwCl [(hfa, .inr (0, [.ref hfp, .ref hft, .int fN, .long fO, .long fG])), (hfp, .inl (cy 1, 9, .inr (.inl (vp_updL (vp_updL fP (x3 - (1 : Int32)).toNatClampNeg (fP x3.toNatClampNeg)) x3.toNatClampNeg (fP (x3 - (1 : Int32)).toNatClampNeg)))))] H12 := hP
      have hD : va_D A [(hfa, .inr (0, [.ref hfp, .ref hft, .int fN, .long fO, .long fG])), (hfp, .inl (cy 1, 9, .inr (.inl (vp_updL (vp_updL fP (x3 - (1 : Int32)).toNatClampNeg (fP x3.toNatClampNeg)) x3.toNatClampNeg (fP (x3 - (1 : Int32)).toNatClampNeg)))))] := hD
      refine lv_iinc (v := (x3 + (-1 : Int32))) (lv' := [(3, .int (x3 + (-1 : Int32))), (4, .long (fP (x3 - (1 : Int32)).toNatClampNeg)), (0, .ref hfa), (1, .int x1), (2, .int x2)]) hx hb dX0_sort_69 hl (k := 4) rfl rfl (by decide) rfl (fun ls hl => ?_)
      refine lv_goto (tgt := 14) hx hb dX0_sort_72 (by decide) ?_
      exact hself _ _ _ _ _ hP hD hS (lv_sub hl [2, 3, 4, 0] rfl) hf
theorem wX0_sort_L14 {p : Program} {l : Launch} {e : Env} {s : State} {m : MethodId} {args : Array Value} {below : List Frame} {meth : Method} {c : Code} {D : va_G} {cy : Nat → ClassId} {A : Nat → Prop} {hfa hfp hft : Nat} {fO : Int64} {fG : Int64} {r0 : (Nat → Int64)} (E0 : En p m c cX0_sort 6 s args wsX0_sort RX0 meth none D cy) (N : Nat) (fN : Int32) (x1 : Int32) (x2 : Int32) (hA : ∀ q, s.heap.size ≤ q → A q) (k : (Nat → Int64) → Option ((Nat → Int64))) (hk : ∀ (fP : Nat → Int64) (H : Heap) (locs : List Loc) (ls : Array Slot), va_P D vwCl [(hfa, .inr (0, [.ref hfp, .ref hft, .int fN, .long fO, .long fG])), (hfp, .inl (cy 1, 9, .inr (.inl fP)))] H → va_D A [(hfa, .inr (0, [.ref hfp, .ref hft, .int fN, .long fO, .long fG])), (hfp, .inl (cy 1, 9, .inr (.inl fP)))] → va_S A s.heap H locs → lv_has ls 6 [(0, .ref hfa), (1, .int x1), (2, .int x2)] → k fP = some r0 → GX0_sort p l e s m args below meth c D cy A hfa hfp hft fN fO fG r0 H locs (F0 m 75 ls [])) : ∀ (n : Nat), ∀ (fP : Nat → Int64) (x3 : Int32) (H : Heap) (locs : List Loc) (ls : Array Slot), va_P D vwCl [(hfa, .inr (0, [.ref hfp, .ref hft, .int fN, .long fO, .long fG])), (hfp, .inl (cy 1, 9, .inr (.inl fP)))] H → va_D A [(hfa, .inr (0, [.ref hfp, .ref hft, .int fN, .long fO, .long fG])), (hfp, .inl (cy 1, 9, .inr (.inl fP)))] → va_S A s.heap H locs → lv_has ls 6 [(0, .ref hfa), (1, .int x1), (2, .int x2), (3, .int x3)] → fX0_sort_L14 N fN x1 x2 k n fP x3 = some r0 → GX0_sort p l e s m args below meth c D cy A hfa hfp hft fN fO fG r0 H locs (F0 m 14 ls []) := by
  intro n
  induction n with
  | zero => intro fP x3 H locs ls hP hD hS hl hf; cases hf
  | succ n ih => exact wX0_sort_B14 E0 N fN x1 x2 hA _ ih k hk
set_option maxHeartbeats 4000000 in
set_option maxRecDepth 100000 in
theorem wX0_sort_B4 {p : Program} {l : Launch} {e : Env} {s : State} {m : MethodId} {args : Array Value} {below : List Frame} {meth : Method} {c : Code} {D : va_G} {cy : Nat → ClassId} {A : Nat → Prop} {hfa hfp hft : Nat} {fO : Int64} {fG : Int64} {r0 : (Nat → Int64)} (E0 : En p m c cX0_sort 6 s args wsX0_sort RX0 meth none D cy) (N : Nat) (fN : Int32) (x1 : Int32) (hA : ∀ q, s.heap.size ≤ q → A q) (self : (Nat → Int64) → Int32 → Option ((Nat → Int64))) (hself : ∀ (fP : Nat → Int64) (x2 : Int32) (H : Heap) (locs : List Loc) (ls : Array Slot), va_P D vwCl [(hfa, .inr (0, [.ref hfp, .ref hft, .int fN, .long fO, .long fG])), (hfp, .inl (cy 1, 9, .inr (.inl fP)))] H → va_D A [(hfa, .inr (0, [.ref hfp, .ref hft, .int fN, .long fO, .long fG])), (hfp, .inl (cy 1, 9, .inr (.inl fP)))] → va_S A s.heap H locs → lv_has ls 6 [(0, .ref hfa), (1, .int x1), (2, .int x2)] → self fP x2 = some r0 → GX0_sort p l e s m args below meth c D cy A hfa hfp hft fN fO fG r0 H locs (F0 m 4 ls [])) (k : (Nat → Int64) → Option ((Nat → Int64))) (hk : ∀ (fP : Nat → Int64) (H : Heap) (locs : List Loc) (ls : Array Slot), va_P D vwCl [(hfa, .inr (0, [.ref hfp, .ref hft, .int fN, .long fO, .long fG])), (hfp, .inl (cy 1, 9, .inr (.inl fP)))] H → va_D A [(hfa, .inr (0, [.ref hfp, .ref hft, .int fN, .long fO, .long fG])), (hfp, .inl (cy 1, 9, .inr (.inl fP)))] → va_S A s.heap H locs → lv_has ls 6 [] → k fP = some r0 → GX0_sort p l e s m args below meth c D cy A hfa hfp hft fN fO fG r0 H locs (F0 m 81 ls [])) : ∀ (fP : Nat → Int64) (x2 : Int32) (H : Heap) (locs : List Loc) (ls : Array Slot), va_P D vwCl [(hfa, .inr (0, [.ref hfp, .ref hft, .int fN, .long fO, .long fG])), (hfp, .inl (cy 1, 9, .inr (.inl fP)))] H → va_D A [(hfa, .inr (0, [.ref hfp, .ref hft, .int fN, .long fO, .long fG])), (hfp, .inl (cy 1, 9, .inr (.inl fP)))] → va_S A s.heap H locs → lv_has ls 6 [(0, .ref hfa), (1, .int x1), (2, .int x2)] → fX0_sort_B4 N fN x1 self k fP x2 = some r0 → GX0_sort p l e s m args below meth c D cy A hfa hfp hft fN fO fG r0 H locs (F0 m 4 ls []) := by
  obtain ⟨⟨hx, hb, hml, hown, hts⟩, hr, hlocks, hB⟩ := id E0
  have hK := hB.1
  have hN := hB.2
  intro fP x2 H locs ls hP hD hS hl hf
  unfold fX0_sort_B4 at hf
  refine lv_iload_n hx hb dX0_sort_4 rfl (lv_at hl 2 rfl) ?_
  refine lv_aload_n hx hb dX0_sort_5 rfl (lv_at hl 0 rfl) ?_
  refine va_get (D := D) (ci := 0) (v := .int fN) (C := RX0) (T := TX0) (N := 5) hx hb hts inX0_sort_X0 hown hK hP 0 rfl rfl 2 (by decide) (hts _ mX0_sort_0) (fun _ h9 => h9) rfl dX0_sort_6 ?_
  refine lv_icmp_ge (tgt := 81) hx hb dX0_sort_9 (by decide) (fun c_1 => ?_) (fun c_1 => ?_)
  · have hf := ite_t hf c_1
    exact hk _ _ _ _ hP hD hS (lv_sub hl [] rfl) hf
  · have hf := ite_f hf c_1
    refine lv_iload_n hx hb dX0_sort_12 rfl (lv_at hl 2 rfl) ?_
    refine lv_istore_n (lv' := [(3, .int x2), (0, .ref hfa), (1, .int x1), (2, .int x2)]) hx hb dX0_sort_13 rfl hl (by decide) rfl (fun ls hl => ?_)
    refine wX0_sort_L14 E0 N fN x1 x2 hA _ (fun fP_14 H15 locs16 ls hP hD hS hl hf => ?_) N _ _ _ _ _ hP hD hS (lv_sub hl [1, 2, 3, 0] rfl) hf
    refine lv_iinc (v := (x2 + (1 : Int32))) (lv' := [(2, .int (x2 + (1 : Int32))), (0, .ref hfa), (1, .int x1)]) hx hb dX0_sort_75 hl (k := 2) rfl rfl (by decide) rfl (fun ls hl => ?_)
    refine lv_goto (tgt := 4) hx hb dX0_sort_78 (by decide) ?_
    exact hself _ _ _ _ _ hP hD hS (lv_sub hl [1, 2, 0] rfl) hf
theorem wX0_sort_L4 {p : Program} {l : Launch} {e : Env} {s : State} {m : MethodId} {args : Array Value} {below : List Frame} {meth : Method} {c : Code} {D : va_G} {cy : Nat → ClassId} {A : Nat → Prop} {hfa hfp hft : Nat} {fO : Int64} {fG : Int64} {r0 : (Nat → Int64)} (E0 : En p m c cX0_sort 6 s args wsX0_sort RX0 meth none D cy) (N : Nat) (fN : Int32) (x1 : Int32) (hA : ∀ q, s.heap.size ≤ q → A q) (k : (Nat → Int64) → Option ((Nat → Int64))) (hk : ∀ (fP : Nat → Int64) (H : Heap) (locs : List Loc) (ls : Array Slot), va_P D vwCl [(hfa, .inr (0, [.ref hfp, .ref hft, .int fN, .long fO, .long fG])), (hfp, .inl (cy 1, 9, .inr (.inl fP)))] H → va_D A [(hfa, .inr (0, [.ref hfp, .ref hft, .int fN, .long fO, .long fG])), (hfp, .inl (cy 1, 9, .inr (.inl fP)))] → va_S A s.heap H locs → lv_has ls 6 [] → k fP = some r0 → GX0_sort p l e s m args below meth c D cy A hfa hfp hft fN fO fG r0 H locs (F0 m 81 ls [])) : ∀ (n : Nat), ∀ (fP : Nat → Int64) (x2 : Int32) (H : Heap) (locs : List Loc) (ls : Array Slot), va_P D vwCl [(hfa, .inr (0, [.ref hfp, .ref hft, .int fN, .long fO, .long fG])), (hfp, .inl (cy 1, 9, .inr (.inl fP)))] H → va_D A [(hfa, .inr (0, [.ref hfp, .ref hft, .int fN, .long fO, .long fG])), (hfp, .inl (cy 1, 9, .inr (.inl fP)))] → va_S A s.heap H locs → lv_has ls 6 [(0, .ref hfa), (1, .int x1), (2, .int x2)] → fX0_sort_L4 N fN x1 k n fP x2 = some r0 → GX0_sort p l e s m args below meth c D cy A hfa hfp hft fN fO fG r0 H locs (F0 m 4 ls []) := by
  intro n
  induction n with
  | zero => intro fP x2 H locs ls hP hD hS hl hf; cases hf
  | succ n ih => exact wX0_sort_B4 E0 N fN x1 hA _ ih k hk
set_option maxHeartbeats 4000000 in
set_option maxRecDepth 100000 in
theorem ctX0_sort (l : Launch) (D : va_G) (cy : Nat → ClassId) (N : Nat) (hfa hfp hft : Nat) (sz : Nat) (fN : Int32) (fO : Int64) (fG : Int64) (fP : Nat → Int64) (x1 : Int32) (r0 : (Nat → Int64)) (hf : fX0_sort N fN fP x1 = some r0) : Met l yX0_sort wsX0_sort rX0_sort (va_Pc [.ref hfa, .int x1] (Wr D cy [(hfa, .inr (0, [.ref hfp, .ref hft, .int fN, .long fO, .long fG])), (hfp, .inl (cy 1, 9, .inr (.inl fP)))] sz)) (Qwv D (va_A [(hfa, .inr (0, [.ref hfp, .ref hft, .int fN, .long fO, .long fG])), (hfp, .inl (cy 1, 9, .inr (.inl fP)))] sz) [(hfa, .inr (0, [.ref hfp, .ref hft, .int fN, .long fO, .long fG])), (hfp, .inl (cy 1, 9, .inr (.inl r0)))]) 0 0 (va_A [(hfa, .inr (0, [.ref hfp, .ref hft, .int fN, .long fO, .long fG])), (hfp, .inl (cy 1, 9, .inr (.inl fP)))] sz) := by
  refine Met.ofW (cc := cX0_sort) (maxL := 6) (ret := none) (by decide) rfl ?_
  intro p e s m args below meth c s₁ B hml hv
  obtain ⟨rfl, hsz, hP, hD0, hB⟩ := hv
  have hx := B.exec
  have hb := B.bytes
  have hr := B.returns
  have hts := atoms_spec (ws := wsX0_sort) B.pre
  have hown : s.vm.findClass RX0 = some m.cls := findClass_of_methodNamed B.named
  have hlocks := B.notSynchronized
  have hK := hB.1
  have hN := hB.2
  subst hsz
  have hD := hD0.self (sz := s.heap.size)
  have hA : ∀ q : Nat, s.heap.size ≤ q → va_A [(hfa, .inr (0, [.ref hfp, .ref hft, .int fN, .long fO, .long fG])), (hfp, .inl (cy 1, 9, .inr (.inl fP)))] s.heap.size q := fun q h => Or.inr h
  generalize va_A [(hfa, .inr (0, [.ref hfp, .ref hft, .int fN, .long fO, .long fG])), (hfp, .inl (cy 1, 9, .inr (.inl fP)))] s.heap.size = A at hD hA ⊢
  have hS : va_S A s.heap s.heap [] := va_S.rf
  have hl := lv_entry ([.ref hfa, .int x1]) (n := 6) (Nat.le_of_ble_eq_true rfl)
  rw [lg_entry_eq]
  generalize (lg_sl ([.ref hfa, .int x1]) ++ List.replicate (6 - (lg_sl ([.ref hfa, .int x1])).length) Slot.unset).toArray = ls at hl ⊢
  have hl : lv_has ls 6 [(0, .ref hfa), (1, .int x1)] := hl
  have E0 : En p m c cX0_sort 6 s ([.ref hfa, .int x1] : List Value).toArray wsX0_sort RX0 meth none D cy := ⟨⟨hx, hb, hml, hown, hts⟩, hr, hlocks, hB⟩
  unfold fX0_sort at hf
  refine lv_iload_n hx hb dX0_sort_0 rfl (lv_at hl 1 rfl) ?_
  refine lv_iconst (v := (1 : Int32)) hx hb dX0_sort_1 (by decide) ?_
  refine lv_iadd hx hb dX0_sort_2 ?_
  refine lv_istore_n (lv' := [(2, .int (x1 + (1 : Int32))), (0, .ref hfa), (1, .int x1)]) hx hb dX0_sort_3 rfl hl (by decide) rfl (fun ls hl => ?_)
  refine wX0_sort_L4 E0 N fN x1 hA _ (fun fP_17 H18 locs19 ls hP hD hS hl hf => ?_) N _ _ _ _ _ hP hD hS (lv_sub hl [1, 2, 0] rfl) hf
  cases hf
  exact W.vret hx hb hr (fun t ht hW => ⟨⟨(), rfl, trivial, by rw [ht]; exact hP, hD⟩, hS.F ht⟩) hS.2.2 dX0_sort_81
/-! SumForms$Factors.withoutFactorsFrom(IJ)J -/
abbrev rX0_withoutFactorsFrom : Room := { frames := 2, cells := 0, slots := 0, locals := 52 }
theorem mX0_withoutFactorsFrom_0 : Cond.fieldLink RX0 19 "SumForms$Factors" "size" "I" ∈ wsX0_withoutFactorsFrom := by decide +kernel
theorem mX0_withoutFactorsFrom_1 : Cond.fieldLink RX0 15 "SumForms$Factors" "times" "[I" ∈ wsX0_withoutFactorsFrom := by decide +kernel
theorem mX0_withoutFactorsFrom_2 : Cond.fieldLink RX0 11 "SumForms$Factors" "polynomials" "[J" ∈ wsX0_withoutFactorsFrom := by decide +kernel
theorem mX0_withoutFactorsFrom_3 : Cond.initialized RX2 ∈ wsX0_withoutFactorsFrom := by decide +kernel
theorem mX0_withoutFactorsFrom_4 : Cond.static yX2_remainder ∈ wsX0_withoutFactorsFrom := by decide +kernel
theorem mX0_withoutFactorsFrom_5 : Cond.static yX2_quotient ∈ wsX0_withoutFactorsFrom := by decide +kernel
theorem inX0_withoutFactorsFrom_X0 : ∀ w ∈ u_ws RX0 TX0 5, w ∈ wsX0_withoutFactorsFrom := by decide +kernel
abbrev GX0_withoutFactorsFrom (p : Program) (l : Launch) (e : Env) (s : State) (m : MethodId) (args : Array Value) (below : List Frame) (meth : Method) (c : Code) (D : va_G) (cy : Nat → ClassId) (A : Nat → Prop) (hfa : Nat) (hfp : Nat) (hft : Nat) (fN : Int32) (fO : Int64) (fG : Int64) (fP : Nat → Int64) (r0 : Int64 × (Nat → Int32)) (H : Heap) (locs : List Loc) (fr : JFrame) : Prop := W p l e (headSpec wsX0_withoutFactorsFrom rX0_withoutFactorsFrom).room s m args below meth c H locs 0 0 (MQ below (Qwl D A [(hfa, .inr (0, [.ref hfp, .ref hft, .int fN, .long fO, .long fG])), (hfp, .inl (cy 1, 9, .inr (.inl fP))), (hft, .inl (cy 0, 9, .inl r0.2))] r0.1) args s 0 0 A) fr
def fX0_withoutFactorsFrom_B15 (N : Nat) (fN : Int32) (fP : Nat → Int64) (x6 : Int32) (self : (Nat → Int32) → Int64 → Option (Int64 × (Nat → Int32))) (k : (Nat → Int32) → Int64 → Option (Int64 × (Nat → Int32))) (fT : Nat → Int32) (x4 : Int64) : Option (Int64 × (Nat → Int32)) := (if OOB x6 9 then none else (if (32 : Int32) ≤ (fT x6.toNatClampNeg) then (k fT x4) else (if OOB x6 9 then none else ((fX2_remainder N x4 (fP x6.toNatClampNeg)).bind (fun r_5 => (if r_5 = (0 : Int64) then (if OOB x6 9 then none else ((fX2_quotient N x4 (fP x6.toNatClampNeg)).bind (fun r_9 => (if OOB x6 9 then none else (if OOB x6 9 then none else (self (upd fT x6.toNatClampNeg ((fT x6.toNatClampNeg) + (1 : Int32))) r_9)))))) else (k fT x4)))))))
def fX0_withoutFactorsFrom_L15 (N : Nat) (fN : Int32) (fP : Nat → Int64) (x6 : Int32) (k : (Nat → Int32) → Int64 → Option (Int64 × (Nat → Int32))) : Nat → (Nat → Int32) → Int64 → Option (Int64 × (Nat → Int32))
  | 0 => fun _ _ => none
  | n + 1 => fun fT x4 => fX0_withoutFactorsFrom_B15 N fN fP x6 (fX0_withoutFactorsFrom_L15 N fN fP x6 k n) k fT x4
def fX0_withoutFactorsFrom_B6 (N : Nat) (fN : Int32) (fP : Nat → Int64)  (self : (Nat → Int32) → Int64 → Int32 → Option (Int64 × (Nat → Int32))) (k : (Nat → Int32) → Int64 → Option (Int64 × (Nat → Int32))) (fT : Nat → Int32) (x4 : Int64) (x6 : Int32) : Option (Int64 × (Nat → Int32)) := (if fN ≤ x6 then (k fT x4) else (fX0_withoutFactorsFrom_L15 N fN fP x6 (fun fT_15 x4_16 => (self fT_15 x4_16 (x6 + (1 : Int32)))) N fT x4))
def fX0_withoutFactorsFrom_L6 (N : Nat) (fN : Int32) (fP : Nat → Int64)  (k : (Nat → Int32) → Int64 → Option (Int64 × (Nat → Int32))) : Nat → (Nat → Int32) → Int64 → Int32 → Option (Int64 × (Nat → Int32))
  | 0 => fun _ _ _ => none
  | n + 1 => fun fT x4 x6 => fX0_withoutFactorsFrom_B6 N fN fP (fX0_withoutFactorsFrom_L6 N fN fP k n) k fT x4 x6
def fX0_withoutFactorsFrom (N : Nat) (fN : Int32) (fP : Nat → Int64) (fT : Nat → Int32) (x1 : Int32) (x2 : Int64) : Option (Int64 × (Nat → Int32)) := (fX0_withoutFactorsFrom_L6 N fN fP (fun fT_19 x4_20 => (some (x4_20, fT_19))) N fT x2 x1)
set_option maxHeartbeats 4000000 in
set_option maxRecDepth 100000 in
theorem wX0_withoutFactorsFrom_B15 {p : Program} {l : Launch} {e : Env} {s : State} {m : MethodId} {args : Array Value} {below : List Frame} {meth : Method} {c : Code} {D : va_G} {cy : Nat → ClassId} {A : Nat → Prop} {hfa hfp hft : Nat} {fO : Int64} {fG : Int64} {r0 : Int64 × (Nat → Int32)} (E0 : En p m c cX0_withoutFactorsFrom 7 s args wsX0_withoutFactorsFrom RX0 meth (some .long) D cy) (N : Nat) (fN : Int32) (fP : Nat → Int64) (x6 : Int32) (hA : ∀ q, s.heap.size ≤ q → A q) (self : (Nat → Int32) → Int64 → Option (Int64 × (Nat → Int32))) (hself : ∀ (fT : Nat → Int32) (x4 : Int64) (H : Heap) (locs : List Loc) (ls : Array Slot), va_P D vwCl [(hfa, .inr (0, [.ref hfp, .ref hft, .int fN, .long fO, .long fG])), (hfp, .inl (cy 1, 9, .inr (.inl fP))), (hft, .inl (cy 0, 9, .inl fT))] H → va_D A [(hfa, .inr (0, [.ref hfp, .ref hft, .int fN, .long fO, .long fG])), (hfp, .inl (cy 1, 9, .inr (.inl fP))), (hft, .inl (cy 0, 9, .inl fT))] → va_S A s.heap H locs → lv_has ls 7 [(0, .ref hfa), (4, .long x4), (6, .int x6)] → self fT x4 = some r0 → GX0_withoutFactorsFrom p l e s m args below meth c D cy A hfa hfp hft fN fO fG fP r0 H locs (F0 m 15 ls [])) (k : (Nat → Int32) → Int64 → Option (Int64 × (Nat → Int32))) (hk : ∀ (fT : Nat → Int32) (x4 : Int64) (H : Heap) (locs : List Loc) (ls : Array Slot), va_P D vwCl [(hfa, .inr (0, [.ref hfp, .ref hft, .int fN, .long fO, .long fG])), (hfp, .inl (cy 1, 9, .inr (.inl fP))), (hft, .inl (cy 0, 9, .inl fT))] H → va_D A [(hfa, .inr (0, [.ref hfp, .ref hft, .int fN, .long fO, .long fG])), (hfp, .inl (cy 1, 9, .inr (.inl fP))), (hft, .inl (cy 0, 9, .inl fT))] → va_S A s.heap H locs → lv_has ls 7 [(0, .ref hfa), (4, .long x4), (6, .int x6)] → k fT x4 = some r0 → GX0_withoutFactorsFrom p l e s m args below meth c D cy A hfa hfp hft fN fO fG fP r0 H locs (F0 m 72 ls [])) : ∀ (fT : Nat → Int32) (x4 : Int64) (H : Heap) (locs : List Loc) (ls : Array Slot), va_P D vwCl [(hfa, .inr (0, [.ref hfp, .ref hft, .int fN, .long fO, .long fG])), (hfp, .inl (cy 1, 9, .inr (.inl fP))), (hft, .inl (cy 0, 9, .inl fT))] H → va_D A [(hfa, .inr (0, [.ref hfp, .ref hft, .int fN, .long fO, .long fG])), (hfp, .inl (cy 1, 9, .inr (.inl fP))), (hft, .inl (cy 0, 9, .inl fT))] → va_S A s.heap H locs → lv_has ls 7 [(0, .ref hfa), (4, .long x4), (6, .int x6)] → fX0_withoutFactorsFrom_B15 N fN fP x6 self k fT x4 = some r0 → GX0_withoutFactorsFrom p l e s m args below meth c D cy A hfa hfp hft fN fO fG fP r0 H locs (F0 m 15 ls []) := by
  obtain ⟨⟨hx, hb, hml, hown, hts⟩, hr, hlocks, hB⟩ := id E0
  have hK := hB.1
  have hN := hB.2
  intro fT x4 H locs ls hP hD hS hl hf
  unfold fX0_withoutFactorsFrom_B15 at hf
  refine lv_aload_n hx hb dX0_withoutFactorsFrom_15 rfl (lv_at hl 0 rfl) ?_
  refine va_get (D := D) (ci := 0) (v := .ref hft) (C := RX0) (T := TX0) (N := 5) hx hb hts inX0_withoutFactorsFrom_X0 hown hK hP 0 rfl rfl 1 (by decide) (hts _ mX0_withoutFactorsFrom_1) (fun _ h9 => h9) rfl dX0_withoutFactorsFrom_16 ?_
  refine lv_iload hx hb dX0_withoutFactorsFrom_19 (lv_at hl 2 rfl) ?_
  obtain ⟨b_2, hf⟩ := ite_n hf
  refine va_iald hx hb hK hP 2 0 rfl rfl b_2 dX0_withoutFactorsFrom_21 ?_
  refine lv_bipush (v := (32 : Int32)) hx hb dX0_withoutFactorsFrom_22 (by decide) ?_
  refine lv_icmp_ge (tgt := 72) hx hb dX0_withoutFactorsFrom_24 (by decide) (fun c_3 => ?_) (fun c_3 => ?_)
  · have hf := ite_t hf c_3
    exact hk _ _ _ _ _ hP hD hS (lv_sub hl [0, 1, 2] rfl) hf
  · have hf := ite_f hf c_3
    refine lv_lload hx hb dX0_withoutFactorsFrom_27 (lv_at hl 1 rfl) ?_
    refine lv_aload_n hx hb dX0_withoutFactorsFrom_29 rfl (lv_at hl 0 rfl) ?_
    refine va_get (D := D) (ci := 0) (v := .ref hfp) (C := RX0) (T := TX0) (N := 5) hx hb hts inX0_withoutFactorsFrom_X0 hown hK hP 0 rfl rfl 0 (by decide) (hts _ mX0_withoutFactorsFrom_2) (fun _ h9 => h9) rfl dX0_withoutFactorsFrom_30 ?_
    refine lv_iload hx hb dX0_withoutFactorsFrom_33 (lv_at hl 2 rfl) ?_
    obtain ⟨b_4, hf⟩ := ite_n hf
    refine va_lald hx hb hK hP 1 1 rfl rfl b_4 dX0_withoutFactorsFrom_35 ?_
    obtain ⟨r_5, h_6, hf⟩ := bind_some hf
    have hP_r_5 : va_P D vwCl [] H := hP.sub [] rfl
    refine cz_l (va_runSN (As := [.long x4, .long (fP x6.toNatClampNeg)]) (rest := []) ⟨hx, hb, hml, hown, hts⟩ (ctX2_remainder l D cy N   x4 (fP x6.toNatClampNeg) r_5 h_6) ⟨va_cnB 2 hts gX0_withoutFactorsFrom_X2_remainder_n62 rfl rfl rfl (nwX0_62 hN) (hts _ mX0_withoutFactorsFrom_3) (by decide +kernel) ⟨Nat.le_of_ble_eq_true rfl, Nat.le_of_ble_eq_true rfl⟩, hts _ mX0_withoutFactorsFrom_4, trivial⟩ (preS_rd [.long x4, .long (fP x6.toNatClampNeg)] hP_r_5 hB) rfl rfl hl.1 rfl (lv_room (Nat.le_of_ble_eq_true rfl)) dX0_withoutFactorsFrom_36 ⟨Nat.zero_le _, Nat.zero_le _⟩) ?_
    refine lv_lconst (v := (0 : Int64)) hx hb dX0_withoutFactorsFrom_39 (by decide) ?_
    refine zz_lc_ne (tgt := 72) hx hb dX0_withoutFactorsFrom_40 dX0_withoutFactorsFrom_41 (by decide) (fun c_7 => ?_) (fun c_7 => ?_)
    · have hf := ite_f hf c_7
      exact hk _ _ _ _ _ hP hD hS (lv_sub hl [0, 1, 2] rfl) hf
    · have hf := ite_t hf c_7
      refine lv_lload hx hb dX0_withoutFactorsFrom_44 (lv_at hl 1 rfl) ?_
      refine lv_aload_n hx hb dX0_withoutFactorsFrom_46 rfl (lv_at hl 0 rfl) ?_
      refine va_get (D := D) (ci := 0) (v := .ref hfp) (C := RX0) (T := TX0) (N := 5) hx hb hts inX0_withoutFactorsFrom_X0 hown hK hP 0 rfl rfl 0 (by decide) (hts _ mX0_withoutFactorsFrom_2) (fun _ h9 => h9) rfl dX0_withoutFactorsFrom_47 ?_
      refine lv_iload hx hb dX0_withoutFactorsFrom_50 (lv_at hl 2 rfl) ?_
      obtain ⟨b_8, hf⟩ := ite_n hf
      refine va_lald hx hb hK hP 1 1 rfl rfl b_8 dX0_withoutFactorsFrom_52 ?_
      obtain ⟨r_9, h_10, hf⟩ := bind_some hf
      have hP_r_9 : va_P D vwCl [] H := hP.sub [] rfl
      refine cz_l (va_runSN (As := [.long x4, .long (fP x6.toNatClampNeg)]) (rest := []) ⟨hx, hb, hml, hown, hts⟩ (ctX2_quotient l D cy N   x4 (fP x6.toNatClampNeg) r_9 h_10) ⟨va_cnB 2 hts gX0_withoutFactorsFrom_X2_quotient_n77 rfl rfl rfl (nwX0_77 hN) (hts _ mX0_withoutFactorsFrom_3) (by decide +kernel) ⟨Nat.le_of_ble_eq_true rfl, Nat.le_of_ble_eq_true rfl⟩, hts _ mX0_withoutFactorsFrom_5, trivial⟩ (preS_rd [.long x4, .long (fP x6.toNatClampNeg)] hP_r_9 hB) rfl rfl hl.1 rfl (lv_room (Nat.le_of_ble_eq_true rfl)) dX0_withoutFactorsFrom_53 ⟨Nat.zero_le _, Nat.zero_le _⟩) ?_
      refine lv_lstore (lv' := [(4, .long r_9), (0, .ref hfa), (6, .int x6)]) hx hb dX0_withoutFactorsFrom_56 hl (by decide) rfl (fun ls hl => ?_)
      refine lv_aload_n hx hb dX0_withoutFactorsFrom_58 rfl (lv_at hl 1 rfl) ?_
      refine va_get (D := D) (ci := 0) (v := .ref hft) (C := RX0) (T := TX0) (N := 5) hx hb hts inX0_withoutFactorsFrom_X0 hown hK hP 0 rfl rfl 1 (by decide) (hts _ mX0_withoutFactorsFrom_1) (fun _ h9 => h9) rfl dX0_withoutFactorsFrom_59 ?_
      refine lv_iload hx hb dX0_withoutFactorsFrom_62 (lv_at hl 2 rfl) ?_
      refine lv_dup2_11 hx hb dX0_withoutFactorsFrom_64 rfl rfl ?_
      obtain ⟨b_11, hf⟩ := ite_n hf
      refine va_iald hx hb hK hP 2 0 rfl rfl b_11 dX0_withoutFactorsFrom_65 ?_
      refine lv_iconst (v := (1 : Int32)) hx hb dX0_withoutFactorsFrom_66 (by decide) ?_
      refine lv_iadd hx hb dX0_withoutFactorsFrom_67 ?_
      obtain ⟨b_12, hf⟩ := ite_n hf
      refine va_iast hx hb hK hP hD hS 2 0 rfl rfl b_12 dX0_withoutFactorsFrom_68 (fun H13 locs14 hP hD hS => ?_)
      have hP : va_P D vwCl [(hfa, .inr (0, [.ref hfp, .ref hft, .int fN, .long fO, .long fG])), (hfp, .inl (cy 1, 9, .inr (.inl fP))), (hft, .inl (cy 0, 9, .inl (upd fT x6.toNatClampNeg ((fT x6.toNatClampNeg) + (1 : Int32)))))] H13 := hP
      have hD : va_D A [(hfa, .inr (0, [.ref hfp, .ref hft, .int fN, .long fO, .long fG])), (hfp, .inl (cy 1, 9, .inr (.inl fP))), (hft, .inl (cy 0, 9, .inl (upd fT x6.toNatClampNeg ((fT x6.toNatClampNeg) + (1 : Int32)))))] := hD
      refine lv_goto (tgt := 15) hx hb dX0_withoutFactorsFrom_69 (by decide) ?_
      exact hself _ _ _ _ _ hP hD hS (lv_sub hl [1, 0, 2] rfl) hf
theorem wX0_withoutFactorsFrom_L15 {p : Program} {l : Launch} {e : Env} {s : State} {m : MethodId} {args : Array Value} {below : List Frame} {meth : Method} {c : Code} {D : va_G} {cy : Nat → ClassId} {A : Nat → Prop} {hfa hfp hft : Nat} {fO : Int64} {fG : Int64} {r0 : Int64 × (Nat → Int32)} (E0 : En p m c cX0_withoutFactorsFrom 7 s args wsX0_withoutFactorsFrom RX0 meth (some .long) D cy) (N : Nat) (fN : Int32) (fP : Nat → Int64) (x6 : Int32) (hA : ∀ q, s.heap.size ≤ q → A q) (k : (Nat → Int32) → Int64 → Option (Int64 × (Nat → Int32))) (hk : ∀ (fT : Nat → Int32) (x4 : Int64) (H : Heap) (locs : List Loc) (ls : Array Slot), va_P D vwCl [(hfa, .inr (0, [.ref hfp, .ref hft, .int fN, .long fO, .long fG])), (hfp, .inl (cy 1, 9, .inr (.inl fP))), (hft, .inl (cy 0, 9, .inl fT))] H → va_D A [(hfa, .inr (0, [.ref hfp, .ref hft, .int fN, .long fO, .long fG])), (hfp, .inl (cy 1, 9, .inr (.inl fP))), (hft, .inl (cy 0, 9, .inl fT))] → va_S A s.heap H locs → lv_has ls 7 [(0, .ref hfa), (4, .long x4), (6, .int x6)] → k fT x4 = some r0 → GX0_withoutFactorsFrom p l e s m args below meth c D cy A hfa hfp hft fN fO fG fP r0 H locs (F0 m 72 ls [])) : ∀ (n : Nat), ∀ (fT : Nat → Int32) (x4 : Int64) (H : Heap) (locs : List Loc) (ls : Array Slot), va_P D vwCl [(hfa, .inr (0, [.ref hfp, .ref hft, .int fN, .long fO, .long fG])), (hfp, .inl (cy 1, 9, .inr (.inl fP))), (hft, .inl (cy 0, 9, .inl fT))] H → va_D A [(hfa, .inr (0, [.ref hfp, .ref hft, .int fN, .long fO, .long fG])), (hfp, .inl (cy 1, 9, .inr (.inl fP))), (hft, .inl (cy 0, 9, .inl fT))] → va_S A s.heap H locs → lv_has ls 7 [(0, .ref hfa), (4, .long x4), (6, .int x6)] → fX0_withoutFactorsFrom_L15 N fN fP x6 k n fT x4 = some r0 → GX0_withoutFactorsFrom p l e s m args below meth c D cy A hfa hfp hft fN fO fG fP r0 H locs (F0 m 15 ls []) := by
  intro n
  induction n with
  | zero => intro fT x4 H locs ls hP hD hS hl hf; cases hf
  | succ n ih => exact wX0_withoutFactorsFrom_B15 E0 N fN fP x6 hA _ ih k hk
set_option maxHeartbeats 4000000 in
set_option maxRecDepth 100000 in
theorem wX0_withoutFactorsFrom_B6 {p : Program} {l : Launch} {e : Env} {s : State} {m : MethodId} {args : Array Value} {below : List Frame} {meth : Method} {c : Code} {D : va_G} {cy : Nat → ClassId} {A : Nat → Prop} {hfa hfp hft : Nat} {fO : Int64} {fG : Int64} {r0 : Int64 × (Nat → Int32)} (E0 : En p m c cX0_withoutFactorsFrom 7 s args wsX0_withoutFactorsFrom RX0 meth (some .long) D cy) (N : Nat) (fN : Int32) (fP : Nat → Int64)  (hA : ∀ q, s.heap.size ≤ q → A q) (self : (Nat → Int32) → Int64 → Int32 → Option (Int64 × (Nat → Int32))) (hself : ∀ (fT : Nat → Int32) (x4 : Int64) (x6 : Int32) (H : Heap) (locs : List Loc) (ls : Array Slot), va_P D vwCl [(hfa, .inr (0, [.ref hfp, .ref hft, .int fN, .long fO, .long fG])), (hfp, .inl (cy 1, 9, .inr (.inl fP))), (hft, .inl (cy 0, 9, .inl fT))] H → va_D A [(hfa, .inr (0, [.ref hfp, .ref hft, .int fN, .long fO, .long fG])), (hfp, .inl (cy 1, 9, .inr (.inl fP))), (hft, .inl (cy 0, 9, .inl fT))] → va_S A s.heap H locs → lv_has ls 7 [(0, .ref hfa), (4, .long x4), (6, .int x6)] → self fT x4 x6 = some r0 → GX0_withoutFactorsFrom p l e s m args below meth c D cy A hfa hfp hft fN fO fG fP r0 H locs (F0 m 6 ls [])) (k : (Nat → Int32) → Int64 → Option (Int64 × (Nat → Int32))) (hk : ∀ (fT : Nat → Int32) (x4 : Int64) (H : Heap) (locs : List Loc) (ls : Array Slot), va_P D vwCl [(hfa, .inr (0, [.ref hfp, .ref hft, .int fN, .long fO, .long fG])), (hfp, .inl (cy 1, 9, .inr (.inl fP))), (hft, .inl (cy 0, 9, .inl fT))] H → va_D A [(hfa, .inr (0, [.ref hfp, .ref hft, .int fN, .long fO, .long fG])), (hfp, .inl (cy 1, 9, .inr (.inl fP))), (hft, .inl (cy 0, 9, .inl fT))] → va_S A s.heap H locs → lv_has ls 7 [(4, .long x4)] → k fT x4 = some r0 → GX0_withoutFactorsFrom p l e s m args below meth c D cy A hfa hfp hft fN fO fG fP r0 H locs (F0 m 78 ls [])) : ∀ (fT : Nat → Int32) (x4 : Int64) (x6 : Int32) (H : Heap) (locs : List Loc) (ls : Array Slot), va_P D vwCl [(hfa, .inr (0, [.ref hfp, .ref hft, .int fN, .long fO, .long fG])), (hfp, .inl (cy 1, 9, .inr (.inl fP))), (hft, .inl (cy 0, 9, .inl fT))] H → va_D A [(hfa, .inr (0, [.ref hfp, .ref hft, .int fN, .long fO, .long fG])), (hfp, .inl (cy 1, 9, .inr (.inl fP))), (hft, .inl (cy 0, 9, .inl fT))] → va_S A s.heap H locs → lv_has ls 7 [(0, .ref hfa), (4, .long x4), (6, .int x6)] → fX0_withoutFactorsFrom_B6 N fN fP self k fT x4 x6 = some r0 → GX0_withoutFactorsFrom p l e s m args below meth c D cy A hfa hfp hft fN fO fG fP r0 H locs (F0 m 6 ls []) := by
  obtain ⟨⟨hx, hb, hml, hown, hts⟩, hr, hlocks, hB⟩ := id E0
  have hK := hB.1
  have hN := hB.2
  intro fT x4 x6 H locs ls hP hD hS hl hf
  unfold fX0_withoutFactorsFrom_B6 at hf
  refine lv_iload hx hb dX0_withoutFactorsFrom_6 (lv_at hl 2 rfl) ?_
  refine lv_aload_n hx hb dX0_withoutFactorsFrom_8 rfl (lv_at hl 0 rfl) ?_
  refine va_get (D := D) (ci := 0) (v := .int fN) (C := RX0) (T := TX0) (N := 5) hx hb hts inX0_withoutFactorsFrom_X0 hown hK hP 0 rfl rfl 2 (by decide) (hts _ mX0_withoutFactorsFrom_0) (fun _ h9 => h9) rfl dX0_withoutFactorsFrom_9 ?_
  refine lv_icmp_ge (tgt := 78) hx hb dX0_withoutFactorsFrom_12 (by decide) (fun c_1 => ?_) (fun c_1 => ?_)
  · have hf := ite_t hf c_1
    exact hk _ _ _ _ _ hP hD hS (lv_sub hl [1] rfl) hf
  · have hf := ite_f hf c_1
    refine wX0_withoutFactorsFrom_L15 E0 N fN fP x6 hA _ (fun fT_15 x4_16 H17 locs18 ls hP hD hS hl hf => ?_) N _ _ _ _ _ hP hD hS (lv_sub hl [0, 1, 2] rfl) hf
    refine lv_iinc (v := (x6 + (1 : Int32))) (lv' := [(6, .int (x6 + (1 : Int32))), (0, .ref hfa), (4, .long x4_16)]) hx hb dX0_withoutFactorsFrom_72 hl (k := 2) rfl rfl (by decide) rfl (fun ls hl => ?_)
    refine lv_goto (tgt := 6) hx hb dX0_withoutFactorsFrom_75 (by decide) ?_
    exact hself _ _ _ _ _ _ hP hD hS (lv_sub hl [1, 2, 0] rfl) hf
theorem wX0_withoutFactorsFrom_L6 {p : Program} {l : Launch} {e : Env} {s : State} {m : MethodId} {args : Array Value} {below : List Frame} {meth : Method} {c : Code} {D : va_G} {cy : Nat → ClassId} {A : Nat → Prop} {hfa hfp hft : Nat} {fO : Int64} {fG : Int64} {r0 : Int64 × (Nat → Int32)} (E0 : En p m c cX0_withoutFactorsFrom 7 s args wsX0_withoutFactorsFrom RX0 meth (some .long) D cy) (N : Nat) (fN : Int32) (fP : Nat → Int64)  (hA : ∀ q, s.heap.size ≤ q → A q) (k : (Nat → Int32) → Int64 → Option (Int64 × (Nat → Int32))) (hk : ∀ (fT : Nat → Int32) (x4 : Int64) (H : Heap) (locs : List Loc) (ls : Array Slot), va_P D vwCl [(hfa, .inr (0, [.ref hfp, .ref hft, .int fN, .long fO, .long fG])), (hfp, .inl (cy 1, 9, .inr (.inl fP))), (hft, .inl (cy 0, 9, .inl fT))] H → va_D A [(hfa, .inr (0, [.ref hfp, .ref hft, .int fN, .long fO, .long fG])), (hfp, .inl (cy 1, 9, .inr (.inl fP))), (hft, .inl (cy 0, 9, .inl fT))] → va_S A s.heap H locs → lv_has ls 7 [(4, .long x4)] → k fT x4 = some r0 → GX0_withoutFactorsFrom p l e s m args below meth c D cy A hfa hfp hft fN fO fG fP r0 H locs (F0 m 78 ls [])) : ∀ (n : Nat), ∀ (fT : Nat → Int32) (x4 : Int64) (x6 : Int32) (H : Heap) (locs : List Loc) (ls : Array Slot), va_P D vwCl [(hfa, .inr (0, [.ref hfp, .ref hft, .int fN, .long fO, .long fG])), (hfp, .inl (cy 1, 9, .inr (.inl fP))), (hft, .inl (cy 0, 9, .inl fT))] H → va_D A [(hfa, .inr (0, [.ref hfp, .ref hft, .int fN, .long fO, .long fG])), (hfp, .inl (cy 1, 9, .inr (.inl fP))), (hft, .inl (cy 0, 9, .inl fT))] → va_S A s.heap H locs → lv_has ls 7 [(0, .ref hfa), (4, .long x4), (6, .int x6)] → fX0_withoutFactorsFrom_L6 N fN fP k n fT x4 x6 = some r0 → GX0_withoutFactorsFrom p l e s m args below meth c D cy A hfa hfp hft fN fO fG fP r0 H locs (F0 m 6 ls []) := by
  intro n
  induction n with
  | zero => intro fT x4 x6 H locs ls hP hD hS hl hf; cases hf
  | succ n ih => exact wX0_withoutFactorsFrom_B6 E0 N fN fP hA _ ih k hk
set_option maxHeartbeats 4000000 in
set_option maxRecDepth 100000 in
theorem ctX0_withoutFactorsFrom (l : Launch) (D : va_G) (cy : Nat → ClassId) (N : Nat) (hfa hfp hft : Nat) (sz : Nat) (fN : Int32) (fO : Int64) (fG : Int64) (fP : Nat → Int64) (fT : Nat → Int32) (x1 : Int32) (x2 : Int64) (r0 : Int64 × (Nat → Int32)) (hf : fX0_withoutFactorsFrom N fN fP fT x1 x2 = some r0) : Met l yX0_withoutFactorsFrom wsX0_withoutFactorsFrom rX0_withoutFactorsFrom (va_Pc [.ref hfa, .int x1, .long x2] (Wr D cy [(hfa, .inr (0, [.ref hfp, .ref hft, .int fN, .long fO, .long fG])), (hfp, .inl (cy 1, 9, .inr (.inl fP))), (hft, .inl (cy 0, 9, .inl fT))] sz)) (Qwl D (va_A [(hfa, .inr (0, [.ref hfp, .ref hft, .int fN, .long fO, .long fG])), (hfp, .inl (cy 1, 9, .inr (.inl fP))), (hft, .inl (cy 0, 9, .inl fT))] sz) [(hfa, .inr (0, [.ref hfp, .ref hft, .int fN, .long fO, .long fG])), (hfp, .inl (cy 1, 9, .inr (.inl fP))), (hft, .inl (cy 0, 9, .inl r0.2))] r0.1) 0 0 (va_A [(hfa, .inr (0, [.ref hfp, .ref hft, .int fN, .long fO, .long fG])), (hfp, .inl (cy 1, 9, .inr (.inl fP))), (hft, .inl (cy 0, 9, .inl fT))] sz) := by
  refine Met.ofW (cc := cX0_withoutFactorsFrom) (maxL := 7) (ret := (some .long)) (by decide) rfl ?_
  intro p e s m args below meth c s₁ B hml hv
  obtain ⟨rfl, hsz, hP, hD0, hB⟩ := hv
  have hx := B.exec
  have hb := B.bytes
  have hr := B.returns
  have hts := atoms_spec (ws := wsX0_withoutFactorsFrom) B.pre
  have hown : s.vm.findClass RX0 = some m.cls := findClass_of_methodNamed B.named
  have hlocks := B.notSynchronized
  have hK := hB.1
  have hN := hB.2
  subst hsz
  have hD := hD0.self (sz := s.heap.size)
  have hA : ∀ q : Nat, s.heap.size ≤ q → va_A [(hfa, .inr (0, [.ref hfp, .ref hft, .int fN, .long fO, .long fG])), (hfp, .inl (cy 1, 9, .inr (.inl fP))), (hft, .inl (cy 0, 9, .inl fT))] s.heap.size q := fun q h => Or.inr h
  generalize va_A [(hfa, .inr (0, [.ref hfp, .ref hft, .int fN, .long fO, .long fG])), (hfp, .inl (cy 1, 9, .inr (.inl fP))), (hft, .inl (cy 0, 9, .inl fT))] s.heap.size = A at hD hA ⊢
  have hS : va_S A s.heap s.heap [] := va_S.rf
  have hl := lv_entry ([.ref hfa, .int x1, .long x2]) (n := 7) (Nat.le_of_ble_eq_true rfl)
  rw [lg_entry_eq]
  generalize (lg_sl ([.ref hfa, .int x1, .long x2]) ++ List.replicate (7 - (lg_sl ([.ref hfa, .int x1, .long x2])).length) Slot.unset).toArray = ls at hl ⊢
  have hl : lv_has ls 7 [(0, .ref hfa), (1, .int x1), (2, .long x2)] := hl
  have E0 : En p m c cX0_withoutFactorsFrom 7 s ([.ref hfa, .int x1, .long x2] : List Value).toArray wsX0_withoutFactorsFrom RX0 meth (some .long) D cy := ⟨⟨hx, hb, hml, hown, hts⟩, hr, hlocks, hB⟩
  unfold fX0_withoutFactorsFrom at hf
  refine lv_lload_n hx hb dX0_withoutFactorsFrom_0 rfl (lv_at hl 2 rfl) ?_
  refine lv_lstore (lv' := [(4, .long x2), (0, .ref hfa), (1, .int x1), (2, .long x2)]) hx hb dX0_withoutFactorsFrom_1 hl (by decide) rfl (fun ls hl => ?_)
  refine lv_iload_n hx hb dX0_withoutFactorsFrom_3 rfl (lv_at hl 2 rfl) ?_
  refine lv_istore (lv' := [(6, .int x1), (4, .long x2), (0, .ref hfa), (1, .int x1), (2, .long x2)]) hx hb dX0_withoutFactorsFrom_4 hl (by decide) rfl (fun ls hl => ?_)
  refine wX0_withoutFactorsFrom_L6 E0 N fN fP  hA _ (fun fT_19 x4_20 H21 locs22 ls hP hD hS hl hf => ?_) N _ _ _ _ _ _ hP hD hS (lv_sub hl [2, 1, 0] rfl) hf
  refine lv_lload hx hb dX0_withoutFactorsFrom_78 (lv_at hl 0 rfl) ?_
  cases hf
  exact W.lret (v := x4_20) hx hb hr (fun t ht hW => ⟨⟨_, (), rfl, rfl, by rw [ht]; exact hP, hD⟩, hS.F ht⟩) hS.2.2 dX0_withoutFactorsFrom_80
/-! SumForms$Factors.findFor(J)V -/
abbrev rX0_findFor : Room := { frames := 5, cells := 0, slots := 0, locals := 139 }
theorem mX0_findFor_0 : Cond.fieldLink RX0 27 "SumForms$Factors" "foundFor" "J" ∈ wsX0_findFor := by decide +kernel
theorem mX0_findFor_1 : Cond.fieldLink RX0 19 "SumForms$Factors" "size" "I" ∈ wsX0_findFor := by decide +kernel
theorem mX0_findFor_2 : Cond.fieldLink RX0 23 "SumForms$Factors" "period" "J" ∈ wsX0_findFor := by decide +kernel
theorem mX0_findFor_3 : Cond.constantLong RX0 32 (2) ∈ wsX0_findFor := by decide +kernel
theorem mX0_findFor_4 : Cond.initialized RX2 ∈ wsX0_findFor := by decide +kernel
theorem mX0_findFor_5 : Cond.static yX2_degree ∈ wsX0_findFor := by decide +kernel
theorem mX0_findFor_6 : Cond.static yX2_product ∈ wsX0_findFor := by decide +kernel
theorem mX0_findFor_7 : Cond.static yX2_greatestCommon ∈ wsX0_findFor := by decide +kernel
theorem mX0_findFor_8 : Cond.static yX2_remainder ∈ wsX0_findFor := by decide +kernel
theorem inX0_findFor_X0 : ∀ w ∈ u_ws RX0 TX0 5, w ∈ wsX0_findFor := by decide +kernel
abbrev GX0_findFor (p : Program) (l : Launch) (e : Env) (s : State) (m : MethodId) (args : Array Value) (below : List Frame) (meth : Method) (c : Code) (D : va_G) (cy : Nat → ClassId) (A : Nat → Prop) (hfa : Nat) (hfp : Nat) (hft : Nat) (r0 : Int32 × Int64 × Int64 × (Nat → Int64) × (Nat → Int32)) (H : Heap) (locs : List Loc) (fr : JFrame) : Prop := W p l e (headSpec wsX0_findFor rX0_findFor).room s m args below meth c H locs 0 0 (MQ below (Qwv D A [(hfa, .inr (0, [.ref hfp, .ref hft, .int r0.1, .long r0.2.1, .long r0.2.2.1])), (hfp, .inl (cy 1, 9, .inr (.inl r0.2.2.2.1))), (hft, .inl (cy 0, 9, .inl r0.2.2.2.2))]) args s 0 0 A) fr
def fX0_findFor_B35 (N : Nat)  (self : Int32 → Int64 → Int64 → (Nat → Int64) → (Nat → Int32) → Int64 → Int64 → Int32 → Option (Int32 × Int64 × Int64 × (Nat → Int64) × (Nat → Int32))) (k : Int32 → Int64 → Int64 → (Nat → Int64) → (Nat → Int32) → Int64 → Option (Int32 × Int64 × Int64 × (Nat → Int64) × (Nat → Int32))) (fN : Int32) (fO : Int64) (fG : Int64) (fP : Nat → Int64) (fT : Nat → Int32) (x3 : Int64) (x5 : Int64) (x7 : Int32) : Option (Int32 × Int64 × Int64 × (Nat → Int64) × (Nat → Int32)) := (if (32 : Int32) ≤ x7 then (k fN fO fG fP fT x3) else ((fX2_degree N x3).bind (fun r_9 => (if r_9 < ((2 : Int32) * x7) then (k fN fO fG fP fT x3) else ((fX2_product N x5 x5 x3).bind (fun r_12 => ((fX2_greatestCommon N x3 (r_12 ^^^ (2 : Int64))).bind (fun r_14 => (if r_14 = (1 : Int64) then (self fN fO fG fP fT x3 r_12 (x7 + (1 : Int32))) else ((fX0_append N fN fP fT r_14 (0 : Int32)).bind (fun r_17 => ((fX0_split N r_17.1 r_17.2.1 r_17.2.2 fN r_14 x7).bind (fun r_21 => ((fX0_sort N r_21.1 r_21.2.1 fN).bind (fun r_25 => ((fX0_withoutFactorsFrom N r_21.1 r_25 r_21.2.2 fN x3).bind (fun r_29 => ((fX2_remainder N r_12 r_29.1).bind (fun r_33 => (self r_21.1 fO fG r_25 r_29.2 r_29.1 r_33 (x7 + (1 : Int32))))))))))))))))))))))
def fX0_findFor_L35 (N : Nat)  (k : Int32 → Int64 → Int64 → (Nat → Int64) → (Nat → Int32) → Int64 → Option (Int32 × Int64 × Int64 × (Nat → Int64) × (Nat → Int32))) : Nat → Int32 → Int64 → Int64 → (Nat → Int64) → (Nat → Int32) → Int64 → Int64 → Int32 → Option (Int32 × Int64 × Int64 × (Nat → Int64) × (Nat → Int32))
  | 0 => fun _ _ _ _ _ _ _ _ => none
  | n + 1 => fun fN fO fG fP fT x3 x5 x7 => fX0_findFor_B35 N (fX0_findFor_L35 N k n) k fN fO fG fP fT x3 x5 x7
def fX0_findFor (N : Nat) (fN : Int32) (fO : Int64) (fG : Int64) (fP : Nat → Int64) (fT : Nat → Int32) (x1 : Int64) : Option (Int32 × Int64 × Int64 × (Nat → Int64) × (Nat → Int32)) := (if fG = x1 then (some (fN, fO, fG, fP, fT)) else (fX0_findFor_L35 N (fun fN_35 fO_36 fG_37 fP_38 fT_39 x3_40 => (if x3_40 = (1 : Int64) then (some (fN_35, fO_36, fG_37, fP_38, fT_39)) else ((fX0_append N fN_35 fP_38 fT_39 x3_40 (1 : Int32)).bind (fun r_44 => (some (r_44.1, fO_36, fG_37, r_44.2.1, r_44.2.2)))))) N (0 : Int32) (0 : Int64) x1 fP fT x1 (2 : Int64) (1 : Int32)))
set_option maxHeartbeats 4000000 in
set_option maxRecDepth 100000 in
theorem wX0_findFor_B35 {p : Program} {l : Launch} {e : Env} {s : State} {m : MethodId} {args : Array Value} {below : List Frame} {meth : Method} {c : Code} {D : va_G} {cy : Nat → ClassId} {A : Nat → Prop} {hfa hfp hft : Nat} {r0 : Int32 × Int64 × Int64 × (Nat → Int64) × (Nat → Int32)} (E0 : En p m c cX0_findFor 11 s args wsX0_findFor RX0 meth none D cy) (N : Nat)  (hA : ∀ q, s.heap.size ≤ q → A q) (self : Int32 → Int64 → Int64 → (Nat → Int64) → (Nat → Int32) → Int64 → Int64 → Int32 → Option (Int32 × Int64 × Int64 × (Nat → Int64) × (Nat → Int32))) (hself : ∀ (fN : Int32) (fO : Int64) (fG : Int64) (fP : Nat → Int64) (fT : Nat → Int32) (x3 : Int64) (x5 : Int64) (x7 : Int32) (H : Heap) (locs : List Loc) (ls : Array Slot), va_P D vwCl [(hfa, .inr (0, [.ref hfp, .ref hft, .int fN, .long fO, .long fG])), (hfp, .inl (cy 1, 9, .inr (.inl fP))), (hft, .inl (cy 0, 9, .inl fT))] H → va_D A [(hfa, .inr (0, [.ref hfp, .ref hft, .int fN, .long fO, .long fG])), (hfp, .inl (cy 1, 9, .inr (.inl fP))), (hft, .inl (cy 0, 9, .inl fT))] → va_S A s.heap H locs → lv_has ls 11 [(0, .ref hfa), (3, .long x3), (5, .long x5), (7, .int x7)] → self fN fO fG fP fT x3 x5 x7 = some r0 → GX0_findFor p l e s m args below meth c D cy A hfa hfp hft  r0 H locs (F0 m 35 ls [])) (k : Int32 → Int64 → Int64 → (Nat → Int64) → (Nat → Int32) → Int64 → Option (Int32 × Int64 × Int64 × (Nat → Int64) × (Nat → Int32))) (hk : ∀ (fN : Int32) (fO : Int64) (fG : Int64) (fP : Nat → Int64) (fT : Nat → Int32) (x3 : Int64) (H : Heap) (locs : List Loc) (ls : Array Slot), va_P D vwCl [(hfa, .inr (0, [.ref hfp, .ref hft, .int fN, .long fO, .long fG])), (hfp, .inl (cy 1, 9, .inr (.inl fP))), (hft, .inl (cy 0, 9, .inl fT))] H → va_D A [(hfa, .inr (0, [.ref hfp, .ref hft, .int fN, .long fO, .long fG])), (hfp, .inl (cy 1, 9, .inr (.inl fP))), (hft, .inl (cy 0, 9, .inl fT))] → va_S A s.heap H locs → lv_has ls 11 [(0, .ref hfa), (3, .long x3)] → k fN fO fG fP fT x3 = some r0 → GX0_findFor p l e s m args below meth c D cy A hfa hfp hft  r0 H locs (F0 m 133 ls [])) : ∀ (fN : Int32) (fO : Int64) (fG : Int64) (fP : Nat → Int64) (fT : Nat → Int32) (x3 : Int64) (x5 : Int64) (x7 : Int32) (H : Heap) (locs : List Loc) (ls : Array Slot), va_P D vwCl [(hfa, .inr (0, [.ref hfp, .ref hft, .int fN, .long fO, .long fG])), (hfp, .inl (cy 1, 9, .inr (.inl fP))), (hft, .inl (cy 0, 9, .inl fT))] H → va_D A [(hfa, .inr (0, [.ref hfp, .ref hft, .int fN, .long fO, .long fG])), (hfp, .inl (cy 1, 9, .inr (.inl fP))), (hft, .inl (cy 0, 9, .inl fT))] → va_S A s.heap H locs → lv_has ls 11 [(0, .ref hfa), (3, .long x3), (5, .long x5), (7, .int x7)] → fX0_findFor_B35 N self k fN fO fG fP fT x3 x5 x7 = some r0 → GX0_findFor p l e s m args below meth c D cy A hfa hfp hft  r0 H locs (F0 m 35 ls []) := by
  obtain ⟨⟨hx, hb, hml, hown, hts⟩, hr, hlocks, hB⟩ := id E0
  have hK := hB.1
  have hN := hB.2
  intro fN fO fG fP fT x3 x5 x7 H locs ls hP hD hS hl hf
  unfold fX0_findFor_B35 at hf
  refine lv_iload hx hb dX0_findFor_35 (lv_at hl 3 rfl) ?_
  refine lv_bipush (v := (32 : Int32)) hx hb dX0_findFor_37 (by decide) ?_
  refine lv_icmp_ge (tgt := 133) hx hb dX0_findFor_39 (by decide) (fun c_8 => ?_) (fun c_8 => ?_)
  · have hf := ite_t hf c_8
    exact hk _ _ _ _ _ _ _ _ _ hP hD hS (lv_sub hl [0, 1] rfl) hf
  · have hf := ite_f hf c_8
    refine lv_iconst (v := (2 : Int32)) hx hb dX0_findFor_42 (by decide) ?_
    refine lv_iload hx hb dX0_findFor_43 (lv_at hl 3 rfl) ?_
    refine lv_imul hx hb dX0_findFor_45 ?_
    refine lv_lload_n hx hb dX0_findFor_46 rfl (lv_at hl 1 rfl) ?_
    obtain ⟨r_9, h_10, hf⟩ := bind_some hf
    have hP_r_9 : va_P D vwCl [] H := hP.sub [] rfl
    refine cz_i (va_runSN (As := [.long x3]) (rest := [.int ((2 : Int32) * x7)]) ⟨hx, hb, hml, hown, hts⟩ (ctX2_degree l D cy N   x3 r_9 h_10) ⟨va_cnB 1 hts gX0_findFor_X2_degree_n34 rfl rfl rfl (nwX0_34 hN) (hts _ mX0_findFor_4) (by decide +kernel) ⟨Nat.le_of_ble_eq_true rfl, Nat.le_of_ble_eq_true rfl⟩, hts _ mX0_findFor_5, trivial⟩ (preS_rd [.long x3] hP_r_9 hB) rfl rfl hl.1 rfl (lv_room (Nat.le_of_ble_eq_true rfl)) dX0_findFor_47 ⟨Nat.zero_le _, Nat.zero_le _⟩) ?_
    refine lv_icmp_gt (tgt := 133) hx hb dX0_findFor_50 (by decide) (fun c_11 => ?_) (fun c_11 => ?_)
    · have hf := ite_t hf c_11
      exact hk _ _ _ _ _ _ _ _ _ hP hD hS (lv_sub hl [0, 1] rfl) hf
    · have hf := ite_f hf c_11
      refine lv_lload hx hb dX0_findFor_53 (lv_at hl 2 rfl) ?_
      refine lv_lload hx hb dX0_findFor_55 (lv_at hl 2 rfl) ?_
      refine lv_lload_n hx hb dX0_findFor_57 rfl (lv_at hl 1 rfl) ?_
      obtain ⟨r_12, h_13, hf⟩ := bind_some hf
      have hP_r_12 : va_P D vwCl [] H := hP.sub [] rfl
      refine cz_l (va_runSN (As := [.long x5, .long x5, .long x3]) (rest := []) ⟨hx, hb, hml, hown, hts⟩ (ctX2_product l D cy N   x5 x5 x3 r_12 h_13) ⟨va_cnB 3 hts gX0_findFor_X2_product_n38 rfl rfl rfl (nwX0_38 hN) (hts _ mX0_findFor_4) (by decide +kernel) ⟨Nat.le_of_ble_eq_true rfl, Nat.le_of_ble_eq_true rfl⟩, hts _ mX0_findFor_6, trivial⟩ (preS_rd [.long x5, .long x5, .long x3] hP_r_12 hB) rfl rfl hl.1 rfl (lv_room (Nat.le_of_ble_eq_true rfl)) dX0_findFor_58 ⟨Nat.zero_le _, Nat.zero_le _⟩) ?_
      refine lv_lstore (lv' := [(5, .long r_12), (0, .ref hfa), (3, .long x3), (7, .int x7)]) hx hb dX0_findFor_61 hl (by decide) rfl (fun ls hl => ?_)
      refine lv_lload_n hx hb dX0_findFor_63 rfl (lv_at hl 2 rfl) ?_
      refine lv_lload hx hb dX0_findFor_64 (lv_at hl 0 rfl) ?_
      refine lv_ldc2 (v := (2 : Int64)) hx hb hown (hts _ mX0_findFor_3) dX0_findFor_66 ?_
      refine lv_lxor hx hb dX0_findFor_69 ?_
      obtain ⟨r_14, h_15, hf⟩ := bind_some hf
      have hP_r_14 : va_P D vwCl [] H := hP.sub [] rfl
      refine cz_l (va_runSN (As := [.long x3, .long (r_12 ^^^ (2 : Int64))]) (rest := []) ⟨hx, hb, hml, hown, hts⟩ (ctX2_greatestCommon l D cy N   x3 (r_12 ^^^ (2 : Int64)) r_14 h_15) ⟨va_cnB 2 hts gX0_findFor_X2_greatestCommon_n42 rfl rfl rfl (nwX0_42 hN) (hts _ mX0_findFor_4) (by decide +kernel) ⟨Nat.le_of_ble_eq_true rfl, Nat.le_of_ble_eq_true rfl⟩, hts _ mX0_findFor_7, trivial⟩ (preS_rd [.long x3, .long (r_12 ^^^ (2 : Int64))] hP_r_14 hB) rfl rfl hl.1 rfl (lv_room (Nat.le_of_ble_eq_true rfl)) dX0_findFor_70 ⟨Nat.zero_le _, Nat.zero_le _⟩) ?_
      refine lv_lstore (lv' := [(8, .long r_14), (5, .long r_12), (0, .ref hfa), (3, .long x3), (7, .int x7)]) hx hb dX0_findFor_73 hl (by decide) rfl (fun ls hl => ?_)
      refine lv_lload hx hb dX0_findFor_75 (lv_at hl 0 rfl) ?_
      refine lv_lconst (v := (1 : Int64)) hx hb dX0_findFor_77 (by decide) ?_
      refine zz_lc_eq (tgt := 127) hx hb dX0_findFor_78 dX0_findFor_79 (by decide) (fun c_16 => ?_) (fun c_16 => ?_)
      · have hf := ite_t hf c_16
        refine lv_iinc (v := (x7 + (1 : Int32))) (lv' := [(7, .int (x7 + (1 : Int32))), (8, .long r_14), (5, .long r_12), (0, .ref hfa), (3, .long x3)]) hx hb dX0_findFor_127 hl (k := 4) rfl rfl (by decide) rfl (fun ls hl => ?_)
        refine lv_goto (tgt := 35) hx hb dX0_findFor_130 (by decide) ?_
        exact hself _ _ _ _ _ _ _ _ _ _ _ hP hD hS (lv_sub hl [3, 4, 2, 0] rfl) hf
      · have hf := ite_f hf c_16
        refine lv_aload_n hx hb dX0_findFor_82 rfl (lv_at hl 2 rfl) ?_
        refine va_get (D := D) (ci := 0) (v := .int fN) (C := RX0) (T := TX0) (N := 5) hx hb hts inX0_findFor_X0 hown hK hP 0 rfl rfl 2 (by decide) (hts _ mX0_findFor_1) (fun _ h9 => h9) rfl dX0_findFor_83 ?_
        refine lv_istore (lv' := [(10, .int fN), (8, .long r_14), (5, .long r_12), (0, .ref hfa), (3, .long x3), (7, .int x7)]) hx hb dX0_findFor_86 hl (by decide) rfl (fun ls hl => ?_)
        refine lv_aload_n hx hb dX0_findFor_88 rfl (lv_at hl 3 rfl) ?_
        refine lv_lload hx hb dX0_findFor_89 (lv_at hl 1 rfl) ?_
        refine lv_iconst (v := (0 : Int32)) hx hb dX0_findFor_91 (by decide) ?_
        obtain ⟨r_17, h_18, hf⟩ := bind_some hf
        have hP_r_17 : va_P D vwCl [(hfa, .inr (0, [.ref hfp, .ref hft, .int fN, .long fO, .long fG])), (hfp, .inl (cy 1, 9, .inr (.inl fP))), (hft, .inl (cy 0, 9, .inl fT))] H := hP.sub [0, 1, 2] rfl
        have hD_r_17 : va_D A [(hfa, .inr (0, [.ref hfp, .ref hft, .int fN, .long fO, .long fG])), (hfp, .inl (cy 1, 9, .inr (.inl fP))), (hft, .inl (cy 0, 9, .inl fT))] := hD.sub [0, 1, 2] (by decide) rfl
        refine cj_v (wc := [(hfa, .inr (0, [.ref hfp, .ref hft, .int fN, .long fO, .long fG])), (hfp, .inl (cy 1, 9, .inr (.inl fP))), (hft, .inl (cy 0, 9, .inl fT))]) (wr := []) (w1 := [(hfa, .inr (0, [.ref hfp, .ref hft, .int r_17.1, .long fO, .long fG])), (hfp, .inl (cy 1, 9, .inr (.inl r_17.2.1))), (hft, .inl (cy 0, 9, .inl r_17.2.2))]) [0, 1, 2] [] (va_runV (As := [.long r_14, .int (0 : Int32)]) (rest := []) ⟨hx, hb, hml, hown, hts⟩ (ctX0_append l D cy N hfa hfp hft H.size fN fO fG fP fT r_14 (0 : Int32) r_17 h_18) (cwV 2 hts gX0_findFor_X0_append rfl rfl rfl (by decide +kernel) ⟨Nat.le_of_ble_eq_true rfl, Nat.le_of_ble_eq_true rfl⟩) (preV_wr (ci := 0) (q0 := 0) [.long r_14, .int (0 : Int32)] hP_r_17 hD_r_17 hB rfl rfl) rfl rfl hl.1 rfl (lv_room (Nat.le_of_ble_eq_true rfl)) dX0_findFor_92 ⟨Nat.zero_le _, Nat.zero_le _⟩) hP hD hS hA rfl rfl (by decide) (by decide) (fun H19 locs20 hP hD hS => ?_)
        have hP : va_P D vwCl [(hfa, .inr (0, [.ref hfp, .ref hft, .int r_17.1, .long fO, .long fG])), (hfp, .inl (cy 1, 9, .inr (.inl r_17.2.1))), (hft, .inl (cy 0, 9, .inl r_17.2.2))] H19 := hP.sub [0, 1, 2] rfl
        have hD : va_D A [(hfa, .inr (0, [.ref hfp, .ref hft, .int r_17.1, .long fO, .long fG])), (hfp, .inl (cy 1, 9, .inr (.inl r_17.2.1))), (hft, .inl (cy 0, 9, .inl r_17.2.2))] := hD.sub [0, 1, 2] (by decide) rfl
        refine lv_aload_n hx hb dX0_findFor_95 rfl (lv_at hl 3 rfl) ?_
        refine lv_iload hx hb dX0_findFor_96 (lv_at hl 0 rfl) ?_
        refine lv_lload hx hb dX0_findFor_98 (lv_at hl 1 rfl) ?_
        refine lv_iload hx hb dX0_findFor_100 (lv_at hl 5 rfl) ?_
        obtain ⟨r_21, h_22, hf⟩ := bind_some hf
        have hP_r_21 : va_P D vwCl [(hfa, .inr (0, [.ref hfp, .ref hft, .int r_17.1, .long fO, .long fG])), (hfp, .inl (cy 1, 9, .inr (.inl r_17.2.1))), (hft, .inl (cy 0, 9, .inl r_17.2.2))] H19 := hP.sub [0, 1, 2] rfl
        have hD_r_21 : va_D A [(hfa, .inr (0, [.ref hfp, .ref hft, .int r_17.1, .long fO, .long fG])), (hfp, .inl (cy 1, 9, .inr (.inl r_17.2.1))), (hft, .inl (cy 0, 9, .inl r_17.2.2))] := hD.sub [0, 1, 2] (by decide) rfl
        refine cj_v (wc := [(hfa, .inr (0, [.ref hfp, .ref hft, .int r_17.1, .long fO, .long fG])), (hfp, .inl (cy 1, 9, .inr (.inl r_17.2.1))), (hft, .inl (cy 0, 9, .inl r_17.2.2))]) (wr := []) (w1 := [(hfa, .inr (0, [.ref hfp, .ref hft, .int r_21.1, .long fO, .long fG])), (hfp, .inl (cy 1, 9, .inr (.inl r_21.2.1))), (hft, .inl (cy 0, 9, .inl r_21.2.2))]) [0, 1, 2] [] (va_runV (As := [.int fN, .long r_14, .int x7]) (rest := []) ⟨hx, hb, hml, hown, hts⟩ (ctX0_split l D cy N hfa hfp hft H19.size r_17.1 fO fG r_17.2.1 r_17.2.2 fN r_14 x7 r_21 h_22) (cwV 3 hts gX0_findFor_X0_split rfl rfl rfl (by decide +kernel) ⟨Nat.le_of_ble_eq_true rfl, Nat.le_of_ble_eq_true rfl⟩) (preV_wr (ci := 0) (q0 := 0) [.int fN, .long r_14, .int x7] hP_r_21 hD_r_21 hB rfl rfl) rfl rfl hl.1 rfl (lv_room (Nat.le_of_ble_eq_true rfl)) dX0_findFor_102 ⟨Nat.zero_le _, Nat.zero_le _⟩) hP hD hS hA rfl rfl (by decide) (by decide) (fun H23 locs24 hP hD hS => ?_)
        have hP : va_P D vwCl [(hfa, .inr (0, [.ref hfp, .ref hft, .int r_21.1, .long fO, .long fG])), (hfp, .inl (cy 1, 9, .inr (.inl r_21.2.1))), (hft, .inl (cy 0, 9, .inl r_21.2.2))] H23 := hP.sub [0, 1, 2] rfl
        have hD : va_D A [(hfa, .inr (0, [.ref hfp, .ref hft, .int r_21.1, .long fO, .long fG])), (hfp, .inl (cy 1, 9, .inr (.inl r_21.2.1))), (hft, .inl (cy 0, 9, .inl r_21.2.2))] := hD.sub [0, 1, 2] (by decide) rfl
        refine lv_aload_n hx hb dX0_findFor_105 rfl (lv_at hl 3 rfl) ?_
        refine lv_iload hx hb dX0_findFor_106 (lv_at hl 0 rfl) ?_
        obtain ⟨r_25, h_26, hf⟩ := bind_some hf
        have hP_r_25 : va_P D vwCl [(hfa, .inr (0, [.ref hfp, .ref hft, .int r_21.1, .long fO, .long fG])), (hfp, .inl (cy 1, 9, .inr (.inl r_21.2.1)))] H23 := hP.sub [0, 1] rfl
        have hD_r_25 : va_D A [(hfa, .inr (0, [.ref hfp, .ref hft, .int r_21.1, .long fO, .long fG])), (hfp, .inl (cy 1, 9, .inr (.inl r_21.2.1)))] := hD.sub [0, 1] (by decide) rfl
        refine cj_v (wc := [(hfa, .inr (0, [.ref hfp, .ref hft, .int r_21.1, .long fO, .long fG])), (hfp, .inl (cy 1, 9, .inr (.inl r_21.2.1)))]) (wr := [(hft, .inl (cy 0, 9, .inl r_21.2.2))]) (w1 := [(hfa, .inr (0, [.ref hfp, .ref hft, .int r_21.1, .long fO, .long fG])), (hfp, .inl (cy 1, 9, .inr (.inl r_25)))]) [0, 1] [2] (va_runV (As := [.int fN]) (rest := []) ⟨hx, hb, hml, hown, hts⟩ (ctX0_sort l D cy N hfa hfp hft H23.size r_21.1 fO fG r_21.2.1 fN r_25 h_26) (cwV 1 hts gX0_findFor_X0_sort rfl rfl rfl (by decide +kernel) ⟨Nat.le_of_ble_eq_true rfl, Nat.le_of_ble_eq_true rfl⟩) (preV_wr (ci := 0) (q0 := 0) [.int fN] hP_r_25 hD_r_25 hB rfl rfl) rfl rfl hl.1 rfl (lv_room (Nat.le_of_ble_eq_true rfl)) dX0_findFor_108 ⟨Nat.zero_le _, Nat.zero_le _⟩) hP hD hS hA rfl rfl (by decide) (by decide) (fun H27 locs28 hP hD hS => ?_)
        have hP : va_P D vwCl [(hfa, .inr (0, [.ref hfp, .ref hft, .int r_21.1, .long fO, .long fG])), (hfp, .inl (cy 1, 9, .inr (.inl r_25))), (hft, .inl (cy 0, 9, .inl r_21.2.2))] H27 := hP.sub [1, 2, 0] rfl
        have hD : va_D A [(hfa, .inr (0, [.ref hfp, .ref hft, .int r_21.1, .long fO, .long fG])), (hfp, .inl (cy 1, 9, .inr (.inl r_25))), (hft, .inl (cy 0, 9, .inl r_21.2.2))] := hD.sub [1, 2, 0] (by decide) rfl
        refine lv_aload_n hx hb dX0_findFor_111 rfl (lv_at hl 3 rfl) ?_
        refine lv_iload hx hb dX0_findFor_112 (lv_at hl 0 rfl) ?_
        refine lv_lload_n hx hb dX0_findFor_114 rfl (lv_at hl 4 rfl) ?_
        obtain ⟨r_29, h_30, hf⟩ := bind_some hf
        have hP_r_29 : va_P D vwCl [(hfa, .inr (0, [.ref hfp, .ref hft, .int r_21.1, .long fO, .long fG])), (hfp, .inl (cy 1, 9, .inr (.inl r_25))), (hft, .inl (cy 0, 9, .inl r_21.2.2))] H27 := hP.sub [0, 1, 2] rfl
        have hD_r_29 : va_D A [(hfa, .inr (0, [.ref hfp, .ref hft, .int r_21.1, .long fO, .long fG])), (hfp, .inl (cy 1, 9, .inr (.inl r_25))), (hft, .inl (cy 0, 9, .inl r_21.2.2))] := hD.sub [0, 1, 2] (by decide) rfl
        refine cj_l (wc := [(hfa, .inr (0, [.ref hfp, .ref hft, .int r_21.1, .long fO, .long fG])), (hfp, .inl (cy 1, 9, .inr (.inl r_25))), (hft, .inl (cy 0, 9, .inl r_21.2.2))]) (wr := []) (w1 := [(hfa, .inr (0, [.ref hfp, .ref hft, .int r_21.1, .long fO, .long fG])), (hfp, .inl (cy 1, 9, .inr (.inl r_25))), (hft, .inl (cy 0, 9, .inl r_29.2))]) [0, 1, 2] [] (va_runV (As := [.int fN, .long x3]) (rest := []) ⟨hx, hb, hml, hown, hts⟩ (ctX0_withoutFactorsFrom l D cy N hfa hfp hft H27.size r_21.1 fO fG r_25 r_21.2.2 fN x3 r_29 h_30) (cwV 2 hts gX0_findFor_X0_withoutFactorsFrom rfl rfl rfl (by decide +kernel) ⟨Nat.le_of_ble_eq_true rfl, Nat.le_of_ble_eq_true rfl⟩) (preV_wr (ci := 0) (q0 := 0) [.int fN, .long x3] hP_r_29 hD_r_29 hB rfl rfl) rfl rfl hl.1 rfl (lv_room (Nat.le_of_ble_eq_true rfl)) dX0_findFor_115 ⟨Nat.zero_le _, Nat.zero_le _⟩) hP hD hS hA rfl rfl (by decide) (by decide) (fun H31 locs32 hP hD hS => ?_)
        have hP : va_P D vwCl [(hfa, .inr (0, [.ref hfp, .ref hft, .int r_21.1, .long fO, .long fG])), (hfp, .inl (cy 1, 9, .inr (.inl r_25))), (hft, .inl (cy 0, 9, .inl r_29.2))] H31 := hP.sub [0, 1, 2] rfl
        have hD : va_D A [(hfa, .inr (0, [.ref hfp, .ref hft, .int r_21.1, .long fO, .long fG])), (hfp, .inl (cy 1, 9, .inr (.inl r_25))), (hft, .inl (cy 0, 9, .inl r_29.2))] := hD.sub [0, 1, 2] (by decide) rfl
        refine lv_lstore_n (lv' := [(3, .long r_29.1), (10, .int fN), (8, .long r_14), (5, .long r_12), (0, .ref hfa), (7, .int x7)]) hx hb dX0_findFor_118 rfl hl (by decide) rfl (fun ls hl => ?_)
        refine lv_lload hx hb dX0_findFor_119 (lv_at hl 3 rfl) ?_
        refine lv_lload_n hx hb dX0_findFor_121 rfl (lv_at hl 0 rfl) ?_
        obtain ⟨r_33, h_34, hf⟩ := bind_some hf
        have hP_r_33 : va_P D vwCl [] H31 := hP.sub [] rfl
        refine cz_l (va_runSN (As := [.long r_12, .long r_29.1]) (rest := []) ⟨hx, hb, hml, hown, hts⟩ (ctX2_remainder l D cy N   r_12 r_29.1 r_33 h_34) ⟨va_cnB 2 hts gX0_findFor_X2_remainder_n62 rfl rfl rfl (nwX0_62 hN) (hts _ mX0_findFor_4) (by decide +kernel) ⟨Nat.le_of_ble_eq_true rfl, Nat.le_of_ble_eq_true rfl⟩, hts _ mX0_findFor_8, trivial⟩ (preS_rd [.long r_12, .long r_29.1] hP_r_33 hB) rfl rfl hl.1 rfl (lv_room (Nat.le_of_ble_eq_true rfl)) dX0_findFor_122 ⟨Nat.zero_le _, Nat.zero_le _⟩) ?_
        refine lv_lstore (lv' := [(5, .long r_33), (3, .long r_29.1), (10, .int fN), (8, .long r_14), (0, .ref hfa), (7, .int x7)]) hx hb dX0_findFor_125 hl (by decide) rfl (fun ls hl => ?_)
        refine lv_iinc (v := (x7 + (1 : Int32))) (lv' := [(7, .int (x7 + (1 : Int32))), (5, .long r_33), (3, .long r_29.1), (10, .int fN), (8, .long r_14), (0, .ref hfa)]) hx hb dX0_findFor_127 hl (k := 5) rfl rfl (by decide) rfl (fun ls hl => ?_)
        refine lv_goto (tgt := 35) hx hb dX0_findFor_130 (by decide) ?_
        exact hself _ _ _ _ _ _ _ _ _ _ _ hP hD hS (lv_sub hl [5, 2, 1, 0] rfl) hf
theorem wX0_findFor_L35 {p : Program} {l : Launch} {e : Env} {s : State} {m : MethodId} {args : Array Value} {below : List Frame} {meth : Method} {c : Code} {D : va_G} {cy : Nat → ClassId} {A : Nat → Prop} {hfa hfp hft : Nat} {r0 : Int32 × Int64 × Int64 × (Nat → Int64) × (Nat → Int32)} (E0 : En p m c cX0_findFor 11 s args wsX0_findFor RX0 meth none D cy) (N : Nat)  (hA : ∀ q, s.heap.size ≤ q → A q) (k : Int32 → Int64 → Int64 → (Nat → Int64) → (Nat → Int32) → Int64 → Option (Int32 × Int64 × Int64 × (Nat → Int64) × (Nat → Int32))) (hk : ∀ (fN : Int32) (fO : Int64) (fG : Int64) (fP : Nat → Int64) (fT : Nat → Int32) (x3 : Int64) (H : Heap) (locs : List Loc) (ls : Array Slot), va_P D vwCl [(hfa, .inr (0, [.ref hfp, .ref hft, .int fN, .long fO, .long fG])), (hfp, .inl (cy 1, 9, .inr (.inl fP))), (hft, .inl (cy 0, 9, .inl fT))] H → va_D A [(hfa, .inr (0, [.ref hfp, .ref hft, .int fN, .long fO, .long fG])), (hfp, .inl (cy 1, 9, .inr (.inl fP))), (hft, .inl (cy 0, 9, .inl fT))] → va_S A s.heap H locs → lv_has ls 11 [(0, .ref hfa), (3, .long x3)] → k fN fO fG fP fT x3 = some r0 → GX0_findFor p l e s m args below meth c D cy A hfa hfp hft  r0 H locs (F0 m 133 ls [])) : ∀ (n : Nat), ∀ (fN : Int32) (fO : Int64) (fG : Int64) (fP : Nat → Int64) (fT : Nat → Int32) (x3 : Int64) (x5 : Int64) (x7 : Int32) (H : Heap) (locs : List Loc) (ls : Array Slot), va_P D vwCl [(hfa, .inr (0, [.ref hfp, .ref hft, .int fN, .long fO, .long fG])), (hfp, .inl (cy 1, 9, .inr (.inl fP))), (hft, .inl (cy 0, 9, .inl fT))] H → va_D A [(hfa, .inr (0, [.ref hfp, .ref hft, .int fN, .long fO, .long fG])), (hfp, .inl (cy 1, 9, .inr (.inl fP))), (hft, .inl (cy 0, 9, .inl fT))] → va_S A s.heap H locs → lv_has ls 11 [(0, .ref hfa), (3, .long x3), (5, .long x5), (7, .int x7)] → fX0_findFor_L35 N k n fN fO fG fP fT x3 x5 x7 = some r0 → GX0_findFor p l e s m args below meth c D cy A hfa hfp hft  r0 H locs (F0 m 35 ls []) := by
  intro n
  induction n with
  | zero => intro fN fO fG fP fT x3 x5 x7 H locs ls hP hD hS hl hf; cases hf
  | succ n ih => exact wX0_findFor_B35 E0 N hA _ ih k hk
set_option maxHeartbeats 4000000 in
set_option maxRecDepth 100000 in
theorem ctX0_findFor (l : Launch) (D : va_G) (cy : Nat → ClassId) (N : Nat) (hfa hfp hft : Nat) (sz : Nat) (fN : Int32) (fO : Int64) (fG : Int64) (fP : Nat → Int64) (fT : Nat → Int32) (x1 : Int64) (r0 : Int32 × Int64 × Int64 × (Nat → Int64) × (Nat → Int32)) (hf : fX0_findFor N fN fO fG fP fT x1 = some r0) : Met l yX0_findFor wsX0_findFor rX0_findFor (va_Pc [.ref hfa, .long x1] (Wr D cy [(hfa, .inr (0, [.ref hfp, .ref hft, .int fN, .long fO, .long fG])), (hfp, .inl (cy 1, 9, .inr (.inl fP))), (hft, .inl (cy 0, 9, .inl fT))] sz)) (Qwv D (va_A [(hfa, .inr (0, [.ref hfp, .ref hft, .int fN, .long fO, .long fG])), (hfp, .inl (cy 1, 9, .inr (.inl fP))), (hft, .inl (cy 0, 9, .inl fT))] sz) [(hfa, .inr (0, [.ref hfp, .ref hft, .int r0.1, .long r0.2.1, .long r0.2.2.1])), (hfp, .inl (cy 1, 9, .inr (.inl r0.2.2.2.1))), (hft, .inl (cy 0, 9, .inl r0.2.2.2.2))]) 0 0 (va_A [(hfa, .inr (0, [.ref hfp, .ref hft, .int fN, .long fO, .long fG])), (hfp, .inl (cy 1, 9, .inr (.inl fP))), (hft, .inl (cy 0, 9, .inl fT))] sz) := by
  refine Met.ofW (cc := cX0_findFor) (maxL := 11) (ret := none) (by decide) rfl ?_
  intro p e s m args below meth c s₁ B hml hv
  obtain ⟨rfl, hsz, hP, hD0, hB⟩ := hv
  have hx := B.exec
  have hb := B.bytes
  have hr := B.returns
  have hts := atoms_spec (ws := wsX0_findFor) B.pre
  have hown : s.vm.findClass RX0 = some m.cls := findClass_of_methodNamed B.named
  have hlocks := B.notSynchronized
  have hK := hB.1
  have hN := hB.2
  subst hsz
  have hD := hD0.self (sz := s.heap.size)
  have hA : ∀ q : Nat, s.heap.size ≤ q → va_A [(hfa, .inr (0, [.ref hfp, .ref hft, .int fN, .long fO, .long fG])), (hfp, .inl (cy 1, 9, .inr (.inl fP))), (hft, .inl (cy 0, 9, .inl fT))] s.heap.size q := fun q h => Or.inr h
  generalize va_A [(hfa, .inr (0, [.ref hfp, .ref hft, .int fN, .long fO, .long fG])), (hfp, .inl (cy 1, 9, .inr (.inl fP))), (hft, .inl (cy 0, 9, .inl fT))] s.heap.size = A at hD hA ⊢
  have hS : va_S A s.heap s.heap [] := va_S.rf
  have hl := lv_entry ([.ref hfa, .long x1]) (n := 11) (Nat.le_of_ble_eq_true rfl)
  rw [lg_entry_eq]
  generalize (lg_sl ([.ref hfa, .long x1]) ++ List.replicate (11 - (lg_sl ([.ref hfa, .long x1])).length) Slot.unset).toArray = ls at hl ⊢
  have hl : lv_has ls 11 [(0, .ref hfa), (1, .long x1)] := hl
  have E0 : En p m c cX0_findFor 11 s ([.ref hfa, .long x1] : List Value).toArray wsX0_findFor RX0 meth none D cy := ⟨⟨hx, hb, hml, hown, hts⟩, hr, hlocks, hB⟩
  unfold fX0_findFor at hf
  refine lv_aload_n hx hb dX0_findFor_0 rfl (lv_at hl 0 rfl) ?_
  refine va_get (D := D) (ci := 0) (v := .long fG) (C := RX0) (T := TX0) (N := 5) hx hb hts inX0_findFor_X0 hown hK hP 0 rfl rfl 4 (by decide) (hts _ mX0_findFor_0) (fun _ h9 => h9) rfl dX0_findFor_1 ?_
  refine lv_lload_n hx hb dX0_findFor_4 rfl (lv_at hl 1 rfl) ?_
  refine zz_lc_ne (tgt := 10) hx hb dX0_findFor_5 dX0_findFor_6 (by decide) (fun c_1 => ?_) (fun c_1 => ?_)
  · have hf := ite_f hf c_1
    refine lv_aload_n hx hb dX0_findFor_10 rfl (lv_at hl 0 rfl) ?_
    refine lv_lload_n hx hb dX0_findFor_11 rfl (lv_at hl 1 rfl) ?_
    refine va_put (D := D) (ci := 0) (v := .long x1) (ty := .long) (C := RX0) (T := TX0) (N := 5) hx hb hts inX0_findFor_X0 tyX0 tyX0_ok nmX0 hown hK hP hD hS 0 rfl rfl 4 (by decide) (hts _ mX0_findFor_0) (fun _ h9 => h9) rfl (by decide +kernel) rfl rfl (Nat.le_of_ble_eq_true rfl) dX0_findFor_12 (fun H2 locs3 hP hD hS => ?_)
    have hP : va_P D vwCl [(hfa, .inr (0, [.ref hfp, .ref hft, .int fN, .long fO, .long x1])), (hfp, .inl (cy 1, 9, .inr (.inl fP))), (hft, .inl (cy 0, 9, .inl fT))] H2 := hP
    have hD : va_D A [(hfa, .inr (0, [.ref hfp, .ref hft, .int fN, .long fO, .long x1])), (hfp, .inl (cy 1, 9, .inr (.inl fP))), (hft, .inl (cy 0, 9, .inl fT))] := hD
    refine lv_aload_n hx hb dX0_findFor_15 rfl (lv_at hl 0 rfl) ?_
    refine lv_iconst (v := (0 : Int32)) hx hb dX0_findFor_16 (by decide) ?_
    refine va_put (D := D) (ci := 0) (v := .int (0 : Int32)) (ty := .int) (C := RX0) (T := TX0) (N := 5) hx hb hts inX0_findFor_X0 tyX0 tyX0_ok nmX0 hown hK hP hD hS 0 rfl rfl 2 (by decide) (hts _ mX0_findFor_1) (fun _ h9 => h9) rfl (by decide +kernel) rfl rfl (Nat.le_of_ble_eq_true rfl) dX0_findFor_17 (fun H4 locs5 hP hD hS => ?_)
    have hP : va_P D vwCl [(hfa, .inr (0, [.ref hfp, .ref hft, .int (0 : Int32), .long fO, .long x1])), (hfp, .inl (cy 1, 9, .inr (.inl fP))), (hft, .inl (cy 0, 9, .inl fT))] H4 := hP
    have hD : va_D A [(hfa, .inr (0, [.ref hfp, .ref hft, .int (0 : Int32), .long fO, .long x1])), (hfp, .inl (cy 1, 9, .inr (.inl fP))), (hft, .inl (cy 0, 9, .inl fT))] := hD
    refine lv_aload_n hx hb dX0_findFor_20 rfl (lv_at hl 0 rfl) ?_
    refine lv_lconst (v := (0 : Int64)) hx hb dX0_findFor_21 (by decide) ?_
    refine va_put (D := D) (ci := 0) (v := .long (0 : Int64)) (ty := .long) (C := RX0) (T := TX0) (N := 5) hx hb hts inX0_findFor_X0 tyX0 tyX0_ok nmX0 hown hK hP hD hS 0 rfl rfl 3 (by decide) (hts _ mX0_findFor_2) (fun _ h9 => h9) rfl (by decide +kernel) rfl rfl (Nat.le_of_ble_eq_true rfl) dX0_findFor_22 (fun H6 locs7 hP hD hS => ?_)
    have hP : va_P D vwCl [(hfa, .inr (0, [.ref hfp, .ref hft, .int (0 : Int32), .long (0 : Int64), .long x1])), (hfp, .inl (cy 1, 9, .inr (.inl fP))), (hft, .inl (cy 0, 9, .inl fT))] H6 := hP
    have hD : va_D A [(hfa, .inr (0, [.ref hfp, .ref hft, .int (0 : Int32), .long (0 : Int64), .long x1])), (hfp, .inl (cy 1, 9, .inr (.inl fP))), (hft, .inl (cy 0, 9, .inl fT))] := hD
    refine lv_lload_n hx hb dX0_findFor_25 rfl (lv_at hl 1 rfl) ?_
    refine lv_lstore_n (lv' := [(3, .long x1), (0, .ref hfa), (1, .long x1)]) hx hb dX0_findFor_26 rfl hl (by decide) rfl (fun ls hl => ?_)
    refine lv_ldc2 (v := (2 : Int64)) hx hb hown (hts _ mX0_findFor_3) dX0_findFor_27 ?_
    refine lv_lstore (lv' := [(5, .long (2 : Int64)), (3, .long x1), (0, .ref hfa), (1, .long x1)]) hx hb dX0_findFor_30 hl (by decide) rfl (fun ls hl => ?_)
    refine lv_iconst (v := (1 : Int32)) hx hb dX0_findFor_32 (by decide) ?_
    refine lv_istore (lv' := [(7, .int (1 : Int32)), (5, .long (2 : Int64)), (3, .long x1), (0, .ref hfa), (1, .long x1)]) hx hb dX0_findFor_33 hl (by decide) rfl (fun ls hl => ?_)
    refine wX0_findFor_L35 E0 N  hA _ (fun fN_35 fO_36 fG_37 fP_38 fT_39 x3_40 H41 locs42 ls hP hD hS hl hf => ?_) N _ _ _ _ _ _ _ _ _ _ _ hP hD hS (lv_sub hl [3, 2, 1, 0] rfl) hf
    refine lv_lload_n hx hb dX0_findFor_133 rfl (lv_at hl 1 rfl) ?_
    refine lv_lconst (v := (1 : Int64)) hx hb dX0_findFor_134 (by decide) ?_
    refine zz_lc_eq (tgt := 145) hx hb dX0_findFor_135 dX0_findFor_136 (by decide) (fun c_43 => ?_) (fun c_43 => ?_)
    · have hf := ite_t hf c_43
      cases hf
      exact W.vret hx hb hr (fun t ht hW => ⟨⟨(), rfl, trivial, by rw [ht]; exact hP, hD⟩, hS.F ht⟩) hS.2.2 dX0_findFor_145
    · have hf := ite_f hf c_43
      refine lv_aload_n hx hb dX0_findFor_139 rfl (lv_at hl 0 rfl) ?_
      refine lv_lload_n hx hb dX0_findFor_140 rfl (lv_at hl 1 rfl) ?_
      refine lv_iconst (v := (1 : Int32)) hx hb dX0_findFor_141 (by decide) ?_
      obtain ⟨r_44, h_45, hf⟩ := bind_some hf
      have hP_r_44 : va_P D vwCl [(hfa, .inr (0, [.ref hfp, .ref hft, .int fN_35, .long fO_36, .long fG_37])), (hfp, .inl (cy 1, 9, .inr (.inl fP_38))), (hft, .inl (cy 0, 9, .inl fT_39))] H41 := hP.sub [0, 1, 2] rfl
      have hD_r_44 : va_D A [(hfa, .inr (0, [.ref hfp, .ref hft, .int fN_35, .long fO_36, .long fG_37])), (hfp, .inl (cy 1, 9, .inr (.inl fP_38))), (hft, .inl (cy 0, 9, .inl fT_39))] := hD.sub [0, 1, 2] (by decide) rfl
      refine cj_v (wc := [(hfa, .inr (0, [.ref hfp, .ref hft, .int fN_35, .long fO_36, .long fG_37])), (hfp, .inl (cy 1, 9, .inr (.inl fP_38))), (hft, .inl (cy 0, 9, .inl fT_39))]) (wr := []) (w1 := [(hfa, .inr (0, [.ref hfp, .ref hft, .int r_44.1, .long fO_36, .long fG_37])), (hfp, .inl (cy 1, 9, .inr (.inl r_44.2.1))), (hft, .inl (cy 0, 9, .inl r_44.2.2))]) [0, 1, 2] [] (va_runV (As := [.long x3_40, .int (1 : Int32)]) (rest := []) ⟨hx, hb, hml, hown, hts⟩ (ctX0_append l D cy N hfa hfp hft H41.size fN_35 fO_36 fG_37 fP_38 fT_39 x3_40 (1 : Int32) r_44 h_45) (cwV 2 hts gX0_findFor_X0_append rfl rfl rfl (by decide +kernel) ⟨Nat.le_of_ble_eq_true rfl, Nat.le_of_ble_eq_true rfl⟩) (preV_wr (ci := 0) (q0 := 0) [.long x3_40, .int (1 : Int32)] hP_r_44 hD_r_44 hB rfl rfl) rfl rfl hl.1 rfl (lv_room (Nat.le_of_ble_eq_true rfl)) dX0_findFor_142 ⟨Nat.zero_le _, Nat.zero_le _⟩) hP hD hS hA rfl rfl (by decide) (by decide) (fun H46 locs47 hP hD hS => ?_)
      have hP : va_P D vwCl [(hfa, .inr (0, [.ref hfp, .ref hft, .int r_44.1, .long fO_36, .long fG_37])), (hfp, .inl (cy 1, 9, .inr (.inl r_44.2.1))), (hft, .inl (cy 0, 9, .inl r_44.2.2))] H46 := hP.sub [0, 1, 2] rfl
      have hD : va_D A [(hfa, .inr (0, [.ref hfp, .ref hft, .int r_44.1, .long fO_36, .long fG_37])), (hfp, .inl (cy 1, 9, .inr (.inl r_44.2.1))), (hft, .inl (cy 0, 9, .inl r_44.2.2))] := hD.sub [0, 1, 2] (by decide) rfl
      cases hf
      exact W.vret hx hb hr (fun t ht hW => ⟨⟨(), rfl, trivial, by rw [ht]; exact hP, hD⟩, hS.F ht⟩) hS.2.2 dX0_findFor_145
  · have hf := ite_t hf c_1
    cases hf
    exact W.vret hx hb hr (fun t ht hW => ⟨⟨(), rfl, trivial, by rw [ht]; exact hP, hD⟩, hS.F ht⟩) hS.2.2 dX0_findFor_9

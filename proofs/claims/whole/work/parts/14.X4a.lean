/-! SumForms$Unseen.fewest(I)I -/
abbrev rX4_fewest : Room := { frames := 0, cells := 0, slots := 0, locals := 0 }
theorem mX4_fewest_0 : Cond.fieldLink RX4 11 "SumForms$Unseen" "twoFrom" "I" ∈ wsX4_fewest := by decide +kernel
theorem mX4_fewest_1 : Cond.fieldLink RX4 15 "SumForms$Unseen" "threeFrom" "I" ∈ wsX4_fewest := by decide +kernel
theorem mX4_fewest_2 : Cond.fieldLink RX4 18 "SumForms$Unseen" "fourFrom" "I" ∈ wsX4_fewest := by decide +kernel
theorem inX4_fewest_X4 : ∀ w ∈ u_ws RX4 TX4 4, w ∈ wsX4_fewest := by decide +kernel
abbrev GX4_fewest (p : Program) (l : Launch) (e : Env) (s : State) (m : MethodId) (args : Array Value) (below : List Frame) (meth : Method) (c : Code) (r0 : Int32) (fr : JFrame) : Prop := W p l e (headSpec wsX4_fewest rX4_fewest).room s m args below meth c s.heap [] 0 0 (MQ below (vp_Si (fun r => r = r0)) args s 0 0 (fun _ => False)) fr
def fX4_fewest (N : Nat) (u2 : Int32) (u3 : Int32) (u4 : Int32) (x1 : Int32) : Option (Int32) := (if x1 < u2 then (if x1 < u3 then (if x1 < u4 then (some (5 : Int32)) else (some (4 : Int32))) else (some (3 : Int32))) else (some (2 : Int32)))
set_option maxHeartbeats 4000000 in
set_option maxRecDepth 100000 in
theorem ctX4_fewest (l : Launch) (D : va_G) (cy : Nat → ClassId) (N : Nat) (hun : Nat) (u2 : Int32) (u3 : Int32) (u4 : Int32) (uG : Int64) (x1 : Int32) (r0 : Int32) (hf : fX4_fewest N u2 u3 u4 x1 = some r0) : Met l yX4_fewest wsX4_fewest rX4_fewest (va_Pc [.ref hun, .int x1] (Rd D cy [(hun, .inr (3, [.int u2, .int u3, .int u4, .long uG]))])) (vp_Si (fun r => r = r0)) 0 0 (fun _ => False) := by
  refine Met.ofW (cc := cX4_fewest) (maxL := 2) (ret := (some .int)) (by decide) rfl ?_
  intro p e s m args below meth c s₁ B hml hv
  obtain ⟨rfl, hP, hB⟩ := hv
  have hx := B.exec
  have hb := B.bytes
  have hr := B.returns
  have hts := atoms_spec (ws := wsX4_fewest) B.pre
  have hown : s.vm.findClass RX4 = some m.cls := findClass_of_methodNamed B.named
  have hlocks := B.notSynchronized
  have hK := hB.1
  have hN := hB.2
  have hl := lv_entry ([.ref hun, .int x1]) (n := 2) (Nat.le_of_ble_eq_true rfl)
  rw [lg_entry_eq]
  generalize (lg_sl ([.ref hun, .int x1]) ++ List.replicate (2 - (lg_sl ([.ref hun, .int x1])).length) Slot.unset).toArray = ls at hl ⊢
  have hl : lv_has ls 2 [(0, .ref hun), (1, .int x1)] := hl
  have E0 : En p m c cX4_fewest 2 s ([.ref hun, .int x1] : List Value).toArray wsX4_fewest RX4 meth (some .int) D cy := ⟨⟨hx, hb, hml, hown, hts⟩, hr, hlocks, hB⟩
  unfold fX4_fewest at hf
  refine lv_iload_n hx hb dX4_fewest_0 rfl (lv_at hl 1 rfl) ?_
  refine lv_aload_n hx hb dX4_fewest_1 rfl (lv_at hl 0 rfl) ?_
  refine va_get (D := D) (ci := 3) (v := .int u2) (C := RX4) (T := TX4) (N := 4) hx hb hts inX4_fewest_X4 hown hK hP 0 rfl rfl 0 (by decide) (hts _ mX4_fewest_0) (fun _ h9 => h9) rfl dX4_fewest_2 ?_
  refine lv_icmp_lt (tgt := 10) hx hb dX4_fewest_5 (by decide) (fun c_1 => ?_) (fun c_1 => ?_)
  · have hf := ite_t hf c_1
    refine lv_iload_n hx hb dX4_fewest_10 rfl (lv_at hl 1 rfl) ?_
    refine lv_aload_n hx hb dX4_fewest_11 rfl (lv_at hl 0 rfl) ?_
    refine va_get (D := D) (ci := 3) (v := .int u3) (C := RX4) (T := TX4) (N := 4) hx hb hts inX4_fewest_X4 hown hK hP 0 rfl rfl 1 (by decide) (hts _ mX4_fewest_1) (fun _ h9 => h9) rfl dX4_fewest_12 ?_
    refine lv_icmp_lt (tgt := 20) hx hb dX4_fewest_15 (by decide) (fun c_2 => ?_) (fun c_2 => ?_)
    · have hf := ite_t hf c_2
      refine lv_iload_n hx hb dX4_fewest_20 rfl (lv_at hl 1 rfl) ?_
      refine lv_aload_n hx hb dX4_fewest_21 rfl (lv_at hl 0 rfl) ?_
      refine va_get (D := D) (ci := 3) (v := .int u4) (C := RX4) (T := TX4) (N := 4) hx hb hts inX4_fewest_X4 hown hK hP 0 rfl rfl 2 (by decide) (hts _ mX4_fewest_2) (fun _ h9 => h9) rfl dX4_fewest_22 ?_
      refine lv_icmp_lt (tgt := 32) hx hb dX4_fewest_25 (by decide) (fun c_3 => ?_) (fun c_3 => ?_)
      · have hf := ite_t hf c_3
        refine lv_iconst (v := (5 : Int32)) hx hb dX4_fewest_32 (by decide) ?_
        exact W.iret (v := (5 : Int32)) hx hb hr (fun t ht hW => ⟨_, rfl, Option.some.inj hf, ht⟩) (fun _ h => absurd h List.not_mem_nil) dX4_fewest_33
      · have hf := ite_f hf c_3
        refine lv_iconst (v := (4 : Int32)) hx hb dX4_fewest_28 (by decide) ?_
        refine lv_goto (tgt := 33) hx hb dX4_fewest_29 (by decide) ?_
        exact W.iret (v := (4 : Int32)) hx hb hr (fun t ht hW => ⟨_, rfl, Option.some.inj hf, ht⟩) (fun _ h => absurd h List.not_mem_nil) dX4_fewest_33
    · have hf := ite_f hf c_2
      refine lv_iconst (v := (3 : Int32)) hx hb dX4_fewest_18 (by decide) ?_
      exact W.iret (v := (3 : Int32)) hx hb hr (fun t ht hW => ⟨_, rfl, Option.some.inj hf, ht⟩) (fun _ h => absurd h List.not_mem_nil) dX4_fewest_19
  · have hf := ite_f hf c_1
    refine lv_iconst (v := (2 : Int32)) hx hb dX4_fewest_8 (by decide) ?_
    exact W.iret (v := (2 : Int32)) hx hb hr (fun t ht hW => ⟨_, rfl, Option.some.inj hf, ht⟩) (fun _ h => absurd h List.not_mem_nil) dX4_fewest_9
/-! SumForms$Unseen.lookAt(JILSumForms$Remainders;)V -/
abbrev rX4_lookAt : Room := { frames := 3, cells := 0, slots := 0, locals := 69 }
theorem mX4_lookAt_0 : Cond.fieldLink RX4 15 "SumForms$Unseen" "threeFrom" "I" ∈ wsX4_lookAt := by decide +kernel
theorem mX4_lookAt_1 : Cond.initialized RX3 ∈ wsX4_lookAt := by decide +kernel
theorem mX4_lookAt_2 : Cond.instanceMethod yX3_has ∈ wsX4_lookAt := by decide +kernel
theorem mX4_lookAt_3 : Cond.selects RX3 yX3_has yX3_has ∈ wsX4_lookAt := by decide +kernel
theorem mX4_lookAt_4 : Cond.fieldLink RX4 18 "SumForms$Unseen" "fourFrom" "I" ∈ wsX4_lookAt := by decide +kernel
theorem mX4_lookAt_5 : Cond.instanceMethod yX3_hasTwo ∈ wsX4_lookAt := by decide +kernel
theorem mX4_lookAt_6 : Cond.selects RX3 yX3_hasTwo yX3_hasTwo ∈ wsX4_lookAt := by decide +kernel
theorem mX4_lookAt_7 : Cond.fieldLink RX4 11 "SumForms$Unseen" "twoFrom" "I" ∈ wsX4_lookAt := by decide +kernel
theorem inX4_lookAt_X4 : ∀ w ∈ u_ws RX4 TX4 4, w ∈ wsX4_lookAt := by decide +kernel
abbrev GX4_lookAt (p : Program) (l : Launch) (e : Env) (s : State) (m : MethodId) (args : Array Value) (below : List Frame) (meth : Method) (c : Code) (D : va_G) (cy : Nat → ClassId) (A : Nat → Prop) (hun : Nat) (hre : Nat) (hrr : Nat) (hrs : Nat) (uG : Int64) (eN : Int32) (eR : Nat → Int64) (eS : Nat → Int64) (r0 : Int32 × Int32 × Int32) (H : Heap) (locs : List Loc) (fr : JFrame) : Prop := W p l e (headSpec wsX4_lookAt rX4_lookAt).room s m args below meth c H locs 0 0 (MQ below (Qwv D A [(hun, .inr (3, [.int r0.1, .int r0.2.1, .int r0.2.2, .long uG])), (hre, .inr (2, [.ref hrr, .ref hrs, .int eN])), (hrr, .inl (cy 1, 200, .inr (.inl eR))), (hrs, .inl (cy 1, 512, .inr (.inl eS)))]) args s 0 0 A) fr
def fX4_lookAt (N : Nat) (u2 : Int32) (u3 : Int32) (u4 : Int32) (eN : Int32) (eR : Nat → Int64) (eS : Nat → Int64) (x1 : Int64) (x3 : Int32) : Option (Int32 × Int32 × Int32) := (if x1 = (0 : Int64) then (some (x3, u3, u4)) else (if u3 = (201 : Int32) then ((fX3_has N eS x1).bind (fun r_3 => (if r_3 = 0 then (if u4 = (201 : Int32) then ((fX3_hasTwo N eN eR eS x1).bind (fun r_7 => (if r_7 = 0 then (some (u2, u3, u4)) else (some (u2, u3, x3))))) else (some (u2, u3, u4))) else (some (u2, x3, u4))))) else (some (u2, u3, u4))))
set_option maxHeartbeats 4000000 in
set_option maxRecDepth 100000 in
theorem ctX4_lookAt (l : Launch) (D : va_G) (cy : Nat → ClassId) (N : Nat) (hun hre hrr hrs : Nat) (sz : Nat) (u2 : Int32) (u3 : Int32) (u4 : Int32) (uG : Int64) (eN : Int32) (eR : Nat → Int64) (eS : Nat → Int64) (x1 : Int64) (x3 : Int32) (r0 : Int32 × Int32 × Int32) (hf : fX4_lookAt N u2 u3 u4 eN eR eS x1 x3 = some r0) : Met l yX4_lookAt wsX4_lookAt rX4_lookAt (va_Pc [.ref hun, .long x1, .int x3, .ref hre] (Wr D cy [(hun, .inr (3, [.int u2, .int u3, .int u4, .long uG])), (hre, .inr (2, [.ref hrr, .ref hrs, .int eN])), (hrr, .inl (cy 1, 200, .inr (.inl eR))), (hrs, .inl (cy 1, 512, .inr (.inl eS)))] sz)) (Qwv D (va_A [(hun, .inr (3, [.int u2, .int u3, .int u4, .long uG])), (hre, .inr (2, [.ref hrr, .ref hrs, .int eN])), (hrr, .inl (cy 1, 200, .inr (.inl eR))), (hrs, .inl (cy 1, 512, .inr (.inl eS)))] sz) [(hun, .inr (3, [.int r0.1, .int r0.2.1, .int r0.2.2, .long uG])), (hre, .inr (2, [.ref hrr, .ref hrs, .int eN])), (hrr, .inl (cy 1, 200, .inr (.inl eR))), (hrs, .inl (cy 1, 512, .inr (.inl eS)))]) 0 0 (va_A [(hun, .inr (3, [.int u2, .int u3, .int u4, .long uG])), (hre, .inr (2, [.ref hrr, .ref hrs, .int eN])), (hrr, .inl (cy 1, 200, .inr (.inl eR))), (hrs, .inl (cy 1, 512, .inr (.inl eS)))] sz) := by
  refine Met.ofW (cc := cX4_lookAt) (maxL := 5) (ret := none) (by decide) rfl ?_
  intro p e s m args below meth c s₁ B hml hv
  obtain ⟨rfl, hsz, hP, hD0, hB⟩ := hv
  have hx := B.exec
  have hb := B.bytes
  have hr := B.returns
  have hts := atoms_spec (ws := wsX4_lookAt) B.pre
  have hown : s.vm.findClass RX4 = some m.cls := findClass_of_methodNamed B.named
  have hlocks := B.notSynchronized
  have hK := hB.1
  have hN := hB.2
  subst hsz
  have hD := hD0.self (sz := s.heap.size)
  have hA : ∀ q : Nat, s.heap.size ≤ q → va_A [(hun, .inr (3, [.int u2, .int u3, .int u4, .long uG])), (hre, .inr (2, [.ref hrr, .ref hrs, .int eN])), (hrr, .inl (cy 1, 200, .inr (.inl eR))), (hrs, .inl (cy 1, 512, .inr (.inl eS)))] s.heap.size q := fun q h => Or.inr h
  generalize va_A [(hun, .inr (3, [.int u2, .int u3, .int u4, .long uG])), (hre, .inr (2, [.ref hrr, .ref hrs, .int eN])), (hrr, .inl (cy 1, 200, .inr (.inl eR))), (hrs, .inl (cy 1, 512, .inr (.inl eS)))] s.heap.size = A at hD hA ⊢
  have hS : va_S A s.heap s.heap [] := va_S.rf
  have hl := lv_entry ([.ref hun, .long x1, .int x3, .ref hre]) (n := 5) (Nat.le_of_ble_eq_true rfl)
  rw [lg_entry_eq]
  generalize (lg_sl ([.ref hun, .long x1, .int x3, .ref hre]) ++ List.replicate (5 - (lg_sl ([.ref hun, .long x1, .int x3, .ref hre])).length) Slot.unset).toArray = ls at hl ⊢
  have hl : lv_has ls 5 [(0, .ref hun), (1, .long x1), (3, .int x3), (4, .ref hre)] := hl
  have E0 : En p m c cX4_lookAt 5 s ([.ref hun, .long x1, .int x3, .ref hre] : List Value).toArray wsX4_lookAt RX4 meth none D cy := ⟨⟨hx, hb, hml, hown, hts⟩, hr, hlocks, hB⟩
  unfold fX4_lookAt at hf
  refine lv_lload_n hx hb dX4_lookAt_0 rfl (lv_at hl 1 rfl) ?_
  refine lv_lconst (v := (0 : Int64)) hx hb dX4_lookAt_1 (by decide) ?_
  refine zz_lc_ne (tgt := 14) hx hb dX4_lookAt_2 dX4_lookAt_3 (by decide) (fun c_1 => ?_) (fun c_1 => ?_)
  · have hf := ite_f hf c_1
    refine lv_aload_n hx hb dX4_lookAt_14 rfl (lv_at hl 0 rfl) ?_
    refine va_get (D := D) (ci := 3) (v := .int u3) (C := RX4) (T := TX4) (N := 4) hx hb hts inX4_lookAt_X4 hown hK hP 0 rfl rfl 1 (by decide) (hts _ mX4_lookAt_0) (fun _ h9 => h9) rfl dX4_lookAt_15 ?_
    refine lv_sipush (v := (201 : Int32)) hx hb dX4_lookAt_18 (by decide) ?_
    refine lv_icmp_ne (tgt := 65) hx hb dX4_lookAt_21 (by decide) (fun c_2 => ?_) (fun c_2 => ?_)
    · have hf := ite_f hf c_2
      cases hf
      exact W.vret hx hb hr (fun t ht hW => ⟨⟨(), rfl, trivial, by rw [ht]; exact hP, hD⟩, hS.F ht⟩) hS.2.2 dX4_lookAt_65
    · have hf := ite_t hf c_2
      refine lv_aload hx hb dX4_lookAt_24 (lv_at hl 3 rfl) ?_
      refine lv_lload_n hx hb dX4_lookAt_26 rfl (lv_at hl 1 rfl) ?_
      obtain ⟨r_3, h_4, hf⟩ := bind_some hf
      have hP_r_3 : va_P D vwCl [(hre, .inr (2, [.ref hrr, .ref hrs, .int eN])), (hrs, .inl (cy 1, 512, .inr (.inl eS)))] s.heap := hP.sub [1, 3] rfl
      refine cz_i (va_runVN (As := [.long x1]) (rest := []) ⟨hx, hb, hml, hown, hts⟩ (ctX3_has l D cy N hre hrr hrs eN eS x1 r_3 h_4) ⟨va_cnB 1 hts gX4_lookAt_X3_has_n48 rfl rfl rfl (nwX4_48 hN) (hts _ mX4_lookAt_1) (by decide +kernel) ⟨Nat.le_of_ble_eq_true rfl, Nat.le_of_ble_eq_true rfl⟩, hts _ mX4_lookAt_2, hts _ mX4_lookAt_3⟩ (preV_rd (ci := 2) (q0 := 0) [.long x1] hP_r_3 hB rfl rfl) rfl rfl hl.1 rfl (lv_room (Nat.le_of_ble_eq_true rfl)) dX4_lookAt_27 ⟨Nat.zero_le _, Nat.zero_le _⟩) ?_
      refine lv_if_eq (tgt := 41) hx hb dX4_lookAt_30 (by decide) (fun c_5 => ?_) (fun c_5 => ?_)
      · have hf := ite_t hf c_5
        refine lv_aload_n hx hb dX4_lookAt_41 rfl (lv_at hl 0 rfl) ?_
        refine va_get (D := D) (ci := 3) (v := .int u4) (C := RX4) (T := TX4) (N := 4) hx hb hts inX4_lookAt_X4 hown hK hP 0 rfl rfl 2 (by decide) (hts _ mX4_lookAt_4) (fun _ h9 => h9) rfl dX4_lookAt_42 ?_
        refine lv_sipush (v := (201 : Int32)) hx hb dX4_lookAt_45 (by decide) ?_
        refine lv_icmp_ne (tgt := 65) hx hb dX4_lookAt_48 (by decide) (fun c_6 => ?_) (fun c_6 => ?_)
        · have hf := ite_f hf c_6
          cases hf
          exact W.vret hx hb hr (fun t ht hW => ⟨⟨(), rfl, trivial, by rw [ht]; exact hP, hD⟩, hS.F ht⟩) hS.2.2 dX4_lookAt_65
        · have hf := ite_t hf c_6
          refine lv_aload hx hb dX4_lookAt_51 (lv_at hl 3 rfl) ?_
          refine lv_lload_n hx hb dX4_lookAt_53 rfl (lv_at hl 1 rfl) ?_
          obtain ⟨r_7, h_8, hf⟩ := bind_some hf
          have hP_r_7 : va_P D vwCl [(hre, .inr (2, [.ref hrr, .ref hrs, .int eN])), (hrr, .inl (cy 1, 200, .inr (.inl eR))), (hrs, .inl (cy 1, 512, .inr (.inl eS)))] s.heap := hP.sub [1, 2, 3] rfl
          refine cz_i (va_runVN (As := [.long x1]) (rest := []) ⟨hx, hb, hml, hown, hts⟩ (ctX3_hasTwo l D cy N hre hrr hrs eN eR eS x1 r_7 h_8) ⟨va_cnB 1 hts gX4_lookAt_X3_hasTwo_n52 rfl rfl rfl (nwX4_52 hN) (hts _ mX4_lookAt_1) (by decide +kernel) ⟨Nat.le_of_ble_eq_true rfl, Nat.le_of_ble_eq_true rfl⟩, hts _ mX4_lookAt_5, hts _ mX4_lookAt_6⟩ (preV_rd (ci := 2) (q0 := 0) [.long x1] hP_r_7 hB rfl rfl) rfl rfl hl.1 rfl (lv_room (Nat.le_of_ble_eq_true rfl)) dX4_lookAt_54 ⟨Nat.zero_le _, Nat.zero_le _⟩) ?_
          refine lv_if_eq (tgt := 65) hx hb dX4_lookAt_57 (by decide) (fun c_9 => ?_) (fun c_9 => ?_)
          · have hf := ite_t hf c_9
            cases hf
            exact W.vret hx hb hr (fun t ht hW => ⟨⟨(), rfl, trivial, by rw [ht]; exact hP, hD⟩, hS.F ht⟩) hS.2.2 dX4_lookAt_65
          · have hf := ite_f hf c_9
            refine lv_aload_n hx hb dX4_lookAt_60 rfl (lv_at hl 0 rfl) ?_
            refine lv_iload_n hx hb dX4_lookAt_61 rfl (lv_at hl 2 rfl) ?_
            refine va_put (D := D) (ci := 3) (v := .int x3) (ty := .int) (C := RX4) (T := TX4) (N := 4) hx hb hts inX4_lookAt_X4 tyX4 tyX4_ok nmX4 hown hK hP hD hS 0 rfl rfl 2 (by decide) (hts _ mX4_lookAt_4) (fun _ h9 => h9) rfl (by decide +kernel) rfl rfl (Nat.le_of_ble_eq_true rfl) dX4_lookAt_62 (fun H10 locs11 hP hD hS => ?_)
            have hP : va_P D vwCl [(hun, .inr (3, [.int u2, .int u3, .int x3, .long uG])), (hre, .inr (2, [.ref hrr, .ref hrs, .int eN])), (hrr, .inl (cy 1, 200, .inr (.inl eR))), (hrs, .inl (cy 1, 512, .inr (.inl eS)))] H10 := hP
            have hD : va_D A [(hun, .inr (3, [.int u2, .int u3, .int x3, .long uG])), (hre, .inr (2, [.ref hrr, .ref hrs, .int eN])), (hrr, .inl (cy 1, 200, .inr (.inl eR))), (hrs, .inl (cy 1, 512, .inr (.inl eS)))] := hD
            cases hf
            exact W.vret hx hb hr (fun t ht hW => ⟨⟨(), rfl, trivial, by rw [ht]; exact hP, hD⟩, hS.F ht⟩) hS.2.2 dX4_lookAt_65
      · have hf := ite_f hf c_5
        refine lv_aload_n hx hb dX4_lookAt_33 rfl (lv_at hl 0 rfl) ?_
        refine lv_iload_n hx hb dX4_lookAt_34 rfl (lv_at hl 2 rfl) ?_
        refine va_put (D := D) (ci := 3) (v := .int x3) (ty := .int) (C := RX4) (T := TX4) (N := 4) hx hb hts inX4_lookAt_X4 tyX4 tyX4_ok nmX4 hown hK hP hD hS 0 rfl rfl 1 (by decide) (hts _ mX4_lookAt_0) (fun _ h9 => h9) rfl (by decide +kernel) rfl rfl (Nat.le_of_ble_eq_true rfl) dX4_lookAt_35 (fun H12 locs13 hP hD hS => ?_)
        have hP : va_P D vwCl [(hun, .inr (3, [.int u2, .int x3, .int u4, .long uG])), (hre, .inr (2, [.ref hrr, .ref hrs, .int eN])), (hrr, .inl (cy 1, 200, .inr (.inl eR))), (hrs, .inl (cy 1, 512, .inr (.inl eS)))] H12 := hP
        have hD : va_D A [(hun, .inr (3, [.int u2, .int x3, .int u4, .long uG])), (hre, .inr (2, [.ref hrr, .ref hrs, .int eN])), (hrr, .inl (cy 1, 200, .inr (.inl eR))), (hrs, .inl (cy 1, 512, .inr (.inl eS)))] := hD
        refine lv_goto (tgt := 65) hx hb dX4_lookAt_38 (by decide) ?_
        cases hf
        exact W.vret hx hb hr (fun t ht hW => ⟨⟨(), rfl, trivial, by rw [ht]; exact hP, hD⟩, hS.F ht⟩) hS.2.2 dX4_lookAt_65
  · have hf := ite_t hf c_1
    refine lv_aload_n hx hb dX4_lookAt_6 rfl (lv_at hl 0 rfl) ?_
    refine lv_iload_n hx hb dX4_lookAt_7 rfl (lv_at hl 2 rfl) ?_
    refine va_put (D := D) (ci := 3) (v := .int x3) (ty := .int) (C := RX4) (T := TX4) (N := 4) hx hb hts inX4_lookAt_X4 tyX4 tyX4_ok nmX4 hown hK hP hD hS 0 rfl rfl 0 (by decide) (hts _ mX4_lookAt_7) (fun _ h9 => h9) rfl (by decide +kernel) rfl rfl (Nat.le_of_ble_eq_true rfl) dX4_lookAt_8 (fun H14 locs15 hP hD hS => ?_)
    have hP : va_P D vwCl [(hun, .inr (3, [.int x3, .int u3, .int u4, .long uG])), (hre, .inr (2, [.ref hrr, .ref hrs, .int eN])), (hrr, .inl (cy 1, 200, .inr (.inl eR))), (hrs, .inl (cy 1, 512, .inr (.inl eS)))] H14 := hP
    have hD : va_D A [(hun, .inr (3, [.int x3, .int u3, .int u4, .long uG])), (hre, .inr (2, [.ref hrr, .ref hrs, .int eN])), (hrr, .inl (cy 1, 200, .inr (.inl eR))), (hrs, .inl (cy 1, 512, .inr (.inl eS)))] := hD
    refine lv_goto (tgt := 65) hx hb dX4_lookAt_11 (by decide) ?_
    cases hf
    exact W.vret hx hb hr (fun t ht hW => ⟨⟨(), rfl, trivial, by rw [ht]; exact hP, hD⟩, hS.F ht⟩) hS.2.2 dX4_lookAt_65
/-! SumForms$Unseen.findFor(JLSumForms$Remainders;)V -/
abbrev rX4_findFor : Room := { frames := 4, cells := 0, slots := 0, locals := 93 }
theorem mX4_findFor_0 : Cond.fieldLink RX4 21 "SumForms$Unseen" "foundFor" "J" ∈ wsX4_findFor := by decide +kernel
theorem mX4_findFor_1 : Cond.fieldLink RX4 11 "SumForms$Unseen" "twoFrom" "I" ∈ wsX4_findFor := by decide +kernel
theorem mX4_findFor_2 : Cond.fieldLink RX4 15 "SumForms$Unseen" "threeFrom" "I" ∈ wsX4_findFor := by decide +kernel
theorem mX4_findFor_3 : Cond.fieldLink RX4 18 "SumForms$Unseen" "fourFrom" "I" ∈ wsX4_findFor := by decide +kernel
theorem mX4_findFor_4 : Cond.initialized RX2 ∈ wsX4_findFor := by decide +kernel
theorem mX4_findFor_5 : Cond.static yX2_degree ∈ wsX4_findFor := by decide +kernel
theorem mX4_findFor_6 : Cond.initialized RX3 ∈ wsX4_findFor := by decide +kernel
theorem mX4_findFor_7 : Cond.instanceMethod yX3_clear ∈ wsX4_findFor := by decide +kernel
theorem mX4_findFor_8 : Cond.selects RX3 yX3_clear yX3_clear ∈ wsX4_findFor := by decide +kernel
theorem mX4_findFor_9 : Cond.instanceMethod yX3_add ∈ wsX4_findFor := by decide +kernel
theorem mX4_findFor_10 : Cond.selects RX3 yX3_add yX3_add ∈ wsX4_findFor := by decide +kernel
theorem mX4_findFor_11 : Cond.static yX2_timesX ∈ wsX4_findFor := by decide +kernel
theorem inX4_findFor_X4 : ∀ w ∈ u_ws RX4 TX4 4, w ∈ wsX4_findFor := by decide +kernel
abbrev GX4_findFor (p : Program) (l : Launch) (e : Env) (s : State) (m : MethodId) (args : Array Value) (below : List Frame) (meth : Method) (c : Code) (D : va_G) (cy : Nat → ClassId) (A : Nat → Prop) (hun : Nat) (hre : Nat) (hrr : Nat) (hrs : Nat) (r0 : Int32 × Int32 × Int32 × Int64 × Int32 × (Nat → Int64) × (Nat → Int64)) (H : Heap) (locs : List Loc) (fr : JFrame) : Prop := W p l e (headSpec wsX4_findFor rX4_findFor).room s m args below meth c H locs 0 0 (MQ below (Qwv D A [(hun, .inr (3, [.int r0.1, .int r0.2.1, .int r0.2.2.1, .long r0.2.2.2.1])), (hre, .inr (2, [.ref hrr, .ref hrs, .int r0.2.2.2.2.1])), (hrr, .inl (cy 1, 200, .inr (.inl r0.2.2.2.2.2.1))), (hrs, .inl (cy 1, 512, .inr (.inl r0.2.2.2.2.2.2)))]) args s 0 0 A) fr
def fX4_findFor_B52 (N : Nat) (x1 : Int64) (x4 : Int32) (self : Int32 → Int32 → Int32 → Int64 → Int32 → (Nat → Int64) → (Nat → Int64) → Int64 → Int32 → Option (Int32 × Int32 × Int32 × Int64 × Int32 × (Nat → Int64) × (Nat → Int64))) (k : Int32 → Int32 → Int32 → Int64 → Int32 → (Nat → Int64) → (Nat → Int64) → Option (Int32 × Int32 × Int32 × Int64 × Int32 × (Nat → Int64) × (Nat → Int64))) (u2 : Int32) (u3 : Int32) (u4 : Int32) (uG : Int64) (eN : Int32) (eR : Nat → Int64) (eS : Nat → Int64) (x5 : Int64) (x7 : Int32) : Option (Int32 × Int32 × Int32 × Int64 × Int32 × (Nat → Int64) × (Nat → Int64)) := (if (200 : Int32) ≤ x7 then (k u2 u3 u4 uG eN eR eS) else (if u2 = (201 : Int32) then ((fX3_add N eN eR eS x5).bind (fun r_18 => ((fX2_timesX N x5 x1 x4).bind (fun r_22 => ((fX4_lookAt N u2 u3 u4 r_18.1 r_18.2.1 r_18.2.2 (r_22 ^^^ (1 : Int64)) (x7 + (1 : Int32))).bind (fun r_24 => (self r_24.1 r_24.2.1 r_24.2.2 uG r_18.1 r_18.2.1 r_18.2.2 r_22 (x7 + (1 : Int32))))))))) else (k u2 u3 u4 uG eN eR eS)))
def fX4_findFor_L52 (N : Nat) (x1 : Int64) (x4 : Int32) (k : Int32 → Int32 → Int32 → Int64 → Int32 → (Nat → Int64) → (Nat → Int64) → Option (Int32 × Int32 × Int32 × Int64 × Int32 × (Nat → Int64) × (Nat → Int64))) : Nat → Int32 → Int32 → Int32 → Int64 → Int32 → (Nat → Int64) → (Nat → Int64) → Int64 → Int32 → Option (Int32 × Int32 × Int32 × Int64 × Int32 × (Nat → Int64) × (Nat → Int64))
  | 0 => fun _ _ _ _ _ _ _ _ _ => none
  | n + 1 => fun u2 u3 u4 uG eN eR eS x5 x7 => fX4_findFor_B52 N x1 x4 (fX4_findFor_L52 N x1 x4 k n) k u2 u3 u4 uG eN eR eS x5 x7
def fX4_findFor (N : Nat) (u2 : Int32) (u3 : Int32) (u4 : Int32) (uG : Int64) (eN : Int32) (eR : Nat → Int64) (eS : Nat → Int64) (x1 : Int64) : Option (Int32 × Int32 × Int32 × Int64 × Int32 × (Nat → Int64) × (Nat → Int64)) := (if uG = x1 then (some (u2, u3, u4, uG, eN, eR, eS)) else ((fX2_degree N x1).bind (fun r_10 => ((fX3_clear N eN eS).bind (fun r_12 => (fX4_findFor_L52 N x1 r_10 (fun u2_28 u3_29 u4_30 uG_31 eN_32 eR_33 eS_34 => (some (u2_28, u3_29, u4_30, uG_31, eN_32, eR_33, eS_34))) N (201 : Int32) (201 : Int32) (201 : Int32) x1 r_12.1 eR r_12.2 (1 : Int64) (1 : Int32)))))))
set_option maxHeartbeats 4000000 in
set_option maxRecDepth 100000 in
theorem wX4_findFor_B52 {p : Program} {l : Launch} {e : Env} {s : State} {m : MethodId} {args : Array Value} {below : List Frame} {meth : Method} {c : Code} {D : va_G} {cy : Nat → ClassId} {A : Nat → Prop} {hun hre hrr hrs : Nat} {r0 : Int32 × Int32 × Int32 × Int64 × Int32 × (Nat → Int64) × (Nat → Int64)} (E0 : En p m c cX4_findFor 8 s args wsX4_findFor RX4 meth none D cy) (N : Nat) (x1 : Int64) (x4 : Int32) (hA : ∀ q, s.heap.size ≤ q → A q) (self : Int32 → Int32 → Int32 → Int64 → Int32 → (Nat → Int64) → (Nat → Int64) → Int64 → Int32 → Option (Int32 × Int32 × Int32 × Int64 × Int32 × (Nat → Int64) × (Nat → Int64))) (hself : ∀ (u2 : Int32) (u3 : Int32) (u4 : Int32) (uG : Int64) (eN : Int32) (eR : Nat → Int64) (eS : Nat → Int64) (x5 : Int64) (x7 : Int32) (H : Heap) (locs : List Loc) (ls : Array Slot), va_P D vwCl [(hun, .inr (3, [.int u2, .int u3, .int u4, .long uG])), (hre, .inr (2, [.ref hrr, .ref hrs, .int eN])), (hrr, .inl (cy 1, 200, .inr (.inl eR))), (hrs, .inl (cy 1, 512, .inr (.inl eS)))] H → va_D A [(hun, .inr (3, [.int u2, .int u3, .int u4, .long uG])), (hre, .inr (2, [.ref hrr, .ref hrs, .int eN])), (hrr, .inl (cy 1, 200, .inr (.inl eR))), (hrs, .inl (cy 1, 512, .inr (.inl eS)))] → va_S A s.heap H locs → lv_has ls 8 [(0, .ref hun), (1, .long x1), (3, .ref hre), (4, .int x4), (5, .long x5), (7, .int x7)] → self u2 u3 u4 uG eN eR eS x5 x7 = some r0 → GX4_findFor p l e s m args below meth c D cy A hun hre hrr hrs  r0 H locs (F0 m 52 ls [])) (k : Int32 → Int32 → Int32 → Int64 → Int32 → (Nat → Int64) → (Nat → Int64) → Option (Int32 × Int32 × Int32 × Int64 × Int32 × (Nat → Int64) × (Nat → Int64))) (hk : ∀ (u2 : Int32) (u3 : Int32) (u4 : Int32) (uG : Int64) (eN : Int32) (eR : Nat → Int64) (eS : Nat → Int64) (H : Heap) (locs : List Loc) (ls : Array Slot), va_P D vwCl [(hun, .inr (3, [.int u2, .int u3, .int u4, .long uG])), (hre, .inr (2, [.ref hrr, .ref hrs, .int eN])), (hrr, .inl (cy 1, 200, .inr (.inl eR))), (hrs, .inl (cy 1, 512, .inr (.inl eS)))] H → va_D A [(hun, .inr (3, [.int u2, .int u3, .int u4, .long uG])), (hre, .inr (2, [.ref hrr, .ref hrs, .int eN])), (hrr, .inl (cy 1, 200, .inr (.inl eR))), (hrs, .inl (cy 1, 512, .inr (.inl eS)))] → va_S A s.heap H locs → lv_has ls 8 [] → k u2 u3 u4 uG eN eR eS = some r0 → GX4_findFor p l e s m args below meth c D cy A hun hre hrr hrs  r0 H locs (F0 m 105 ls [])) : ∀ (u2 : Int32) (u3 : Int32) (u4 : Int32) (uG : Int64) (eN : Int32) (eR : Nat → Int64) (eS : Nat → Int64) (x5 : Int64) (x7 : Int32) (H : Heap) (locs : List Loc) (ls : Array Slot), va_P D vwCl [(hun, .inr (3, [.int u2, .int u3, .int u4, .long uG])), (hre, .inr (2, [.ref hrr, .ref hrs, .int eN])), (hrr, .inl (cy 1, 200, .inr (.inl eR))), (hrs, .inl (cy 1, 512, .inr (.inl eS)))] H → va_D A [(hun, .inr (3, [.int u2, .int u3, .int u4, .long uG])), (hre, .inr (2, [.ref hrr, .ref hrs, .int eN])), (hrr, .inl (cy 1, 200, .inr (.inl eR))), (hrs, .inl (cy 1, 512, .inr (.inl eS)))] → va_S A s.heap H locs → lv_has ls 8 [(0, .ref hun), (1, .long x1), (3, .ref hre), (4, .int x4), (5, .long x5), (7, .int x7)] → fX4_findFor_B52 N x1 x4 self k u2 u3 u4 uG eN eR eS x5 x7 = some r0 → GX4_findFor p l e s m args below meth c D cy A hun hre hrr hrs  r0 H locs (F0 m 52 ls []) := by
  obtain ⟨⟨hx, hb, hml, hown, hts⟩, hr, hlocks, hB⟩ := id E0
  have hK := hB.1
  have hN := hB.2
  intro u2 u3 u4 uG eN eR eS x5 x7 H locs ls hP hD hS hl hf
  unfold fX4_findFor_B52 at hf
  refine lv_iload hx hb dX4_findFor_52 (lv_at hl 5 rfl) ?_
  refine lv_sipush (v := (200 : Int32)) hx hb dX4_findFor_54 (by decide) ?_
  refine lv_icmp_ge (tgt := 105) hx hb dX4_findFor_57 (by decide) (fun c_16 => ?_) (fun c_16 => ?_)
  · have hf := ite_t hf c_16
    exact hk _ _ _ _ _ _ _ _ _ _ hP hD hS (lv_sub hl [] rfl) hf
  · have hf := ite_f hf c_16
    refine lv_aload_n hx hb dX4_findFor_60 rfl (lv_at hl 0 rfl) ?_
    refine va_get (D := D) (ci := 3) (v := .int u2) (C := RX4) (T := TX4) (N := 4) hx hb hts inX4_findFor_X4 hown hK hP 0 rfl rfl 0 (by decide) (hts _ mX4_findFor_1) (fun _ h9 => h9) rfl dX4_findFor_61 ?_
    refine lv_sipush (v := (201 : Int32)) hx hb dX4_findFor_64 (by decide) ?_
    refine lv_icmp_ne (tgt := 105) hx hb dX4_findFor_67 (by decide) (fun c_17 => ?_) (fun c_17 => ?_)
    · have hf := ite_f hf c_17
      exact hk _ _ _ _ _ _ _ _ _ _ hP hD hS (lv_sub hl [] rfl) hf
    · have hf := ite_t hf c_17
      refine lv_aload_n hx hb dX4_findFor_70 rfl (lv_at hl 2 rfl) ?_
      refine lv_lload hx hb dX4_findFor_71 (lv_at hl 4 rfl) ?_
      obtain ⟨r_18, h_19, hf⟩ := bind_some hf
      have hP_r_18 : va_P D vwCl [(hre, .inr (2, [.ref hrr, .ref hrs, .int eN])), (hrr, .inl (cy 1, 200, .inr (.inl eR))), (hrs, .inl (cy 1, 512, .inr (.inl eS)))] H := hP.sub [1, 2, 3] rfl
      have hD_r_18 : va_D A [(hre, .inr (2, [.ref hrr, .ref hrs, .int eN])), (hrr, .inl (cy 1, 200, .inr (.inl eR))), (hrs, .inl (cy 1, 512, .inr (.inl eS)))] := hD.sub [1, 2, 3] (by decide) rfl
      refine cj_v (wc := [(hre, .inr (2, [.ref hrr, .ref hrs, .int eN])), (hrr, .inl (cy 1, 200, .inr (.inl eR))), (hrs, .inl (cy 1, 512, .inr (.inl eS)))]) (wr := [(hun, .inr (3, [.int u2, .int u3, .int u4, .long uG]))]) (w1 := [(hre, .inr (2, [.ref hrr, .ref hrs, .int r_18.1])), (hrr, .inl (cy 1, 200, .inr (.inl r_18.2.1))), (hrs, .inl (cy 1, 512, .inr (.inl r_18.2.2)))]) [1, 2, 3] [0] (va_runVN (As := [.long x5]) (rest := []) ⟨hx, hb, hml, hown, hts⟩ (ctX3_add l D cy N hre hrr hrs H.size eN eR eS x5 r_18 h_19) ⟨va_cnB 1 hts gX4_findFor_X3_add_n36 rfl rfl rfl (nwX4_36 hN) (hts _ mX4_findFor_6) (by decide +kernel) ⟨Nat.le_of_ble_eq_true rfl, Nat.le_of_ble_eq_true rfl⟩, hts _ mX4_findFor_9, hts _ mX4_findFor_10⟩ (preV_wr (ci := 2) (q0 := 0) [.long x5] hP_r_18 hD_r_18 hB rfl rfl) rfl rfl hl.1 rfl (lv_room (Nat.le_of_ble_eq_true rfl)) dX4_findFor_73 ⟨Nat.zero_le _, Nat.zero_le _⟩) hP hD hS hA rfl rfl (by decide) (by decide) (fun H20 locs21 hP hD hS => ?_)
      have hP : va_P D vwCl [(hun, .inr (3, [.int u2, .int u3, .int u4, .long uG])), (hre, .inr (2, [.ref hrr, .ref hrs, .int r_18.1])), (hrr, .inl (cy 1, 200, .inr (.inl r_18.2.1))), (hrs, .inl (cy 1, 512, .inr (.inl r_18.2.2)))] H20 := hP.sub [0, 1, 2, 3] rfl
      have hD : va_D A [(hun, .inr (3, [.int u2, .int u3, .int u4, .long uG])), (hre, .inr (2, [.ref hrr, .ref hrs, .int r_18.1])), (hrr, .inl (cy 1, 200, .inr (.inl r_18.2.1))), (hrs, .inl (cy 1, 512, .inr (.inl r_18.2.2)))] := hD.sub [0, 1, 2, 3] (by decide) rfl
      refine lv_lload hx hb dX4_findFor_76 (lv_at hl 4 rfl) ?_
      refine lv_lload_n hx hb dX4_findFor_78 rfl (lv_at hl 1 rfl) ?_
      refine lv_iload hx hb dX4_findFor_79 (lv_at hl 3 rfl) ?_
      obtain ⟨r_22, h_23, hf⟩ := bind_some hf
      have hP_r_22 : va_P D vwCl [] H20 := hP.sub [] rfl
      refine cz_l (va_runSN (As := [.long x5, .long x1, .int x4]) (rest := []) ⟨hx, hb, hml, hown, hts⟩ (ctX2_timesX l D cy N   x5 x1 x4 r_22 h_23) ⟨va_cnB 3 hts gX4_findFor_X2_timesX_n40 rfl rfl rfl (nwX4_40 hN) (hts _ mX4_findFor_4) (by decide +kernel) ⟨Nat.le_of_ble_eq_true rfl, Nat.le_of_ble_eq_true rfl⟩, hts _ mX4_findFor_11, trivial⟩ (preS_rd [.long x5, .long x1, .int x4] hP_r_22 hB) rfl rfl hl.1 rfl (lv_room (Nat.le_of_ble_eq_true rfl)) dX4_findFor_81 ⟨Nat.zero_le _, Nat.zero_le _⟩) ?_
      refine lv_lstore (lv' := [(5, .long r_22), (0, .ref hun), (1, .long x1), (3, .ref hre), (4, .int x4), (7, .int x7)]) hx hb dX4_findFor_84 hl (by decide) rfl (fun ls hl => ?_)
      refine lv_aload_n hx hb dX4_findFor_86 rfl (lv_at hl 1 rfl) ?_
      refine lv_lload hx hb dX4_findFor_87 (lv_at hl 0 rfl) ?_
      refine lv_lconst (v := (1 : Int64)) hx hb dX4_findFor_89 (by decide) ?_
      refine lv_lxor hx hb dX4_findFor_90 ?_
      refine lv_iload hx hb dX4_findFor_91 (lv_at hl 5 rfl) ?_
      refine lv_iconst (v := (1 : Int32)) hx hb dX4_findFor_93 (by decide) ?_
      refine lv_iadd hx hb dX4_findFor_94 ?_
      refine lv_aload_n hx hb dX4_findFor_95 rfl (lv_at hl 3 rfl) ?_
      obtain ⟨r_24, h_25, hf⟩ := bind_some hf
      have hP_r_24 : va_P D vwCl [(hun, .inr (3, [.int u2, .int u3, .int u4, .long uG])), (hre, .inr (2, [.ref hrr, .ref hrs, .int r_18.1])), (hrr, .inl (cy 1, 200, .inr (.inl r_18.2.1))), (hrs, .inl (cy 1, 512, .inr (.inl r_18.2.2)))] H20 := hP.sub [0, 1, 2, 3] rfl
      have hD_r_24 : va_D A [(hun, .inr (3, [.int u2, .int u3, .int u4, .long uG])), (hre, .inr (2, [.ref hrr, .ref hrs, .int r_18.1])), (hrr, .inl (cy 1, 200, .inr (.inl r_18.2.1))), (hrs, .inl (cy 1, 512, .inr (.inl r_18.2.2)))] := hD.sub [0, 1, 2, 3] (by decide) rfl
      refine cj_v (wc := [(hun, .inr (3, [.int u2, .int u3, .int u4, .long uG])), (hre, .inr (2, [.ref hrr, .ref hrs, .int r_18.1])), (hrr, .inl (cy 1, 200, .inr (.inl r_18.2.1))), (hrs, .inl (cy 1, 512, .inr (.inl r_18.2.2)))]) (wr := []) (w1 := [(hun, .inr (3, [.int r_24.1, .int r_24.2.1, .int r_24.2.2, .long uG])), (hre, .inr (2, [.ref hrr, .ref hrs, .int r_18.1])), (hrr, .inl (cy 1, 200, .inr (.inl r_18.2.1))), (hrs, .inl (cy 1, 512, .inr (.inl r_18.2.2)))]) [0, 1, 2, 3] [] (va_runV (As := [.long (r_22 ^^^ (1 : Int64)), .int (x7 + (1 : Int32)), .ref hre]) (rest := []) ⟨hx, hb, hml, hown, hts⟩ (ctX4_lookAt l D cy N hun hre hrr hrs H20.size u2 u3 u4 uG r_18.1 r_18.2.1 r_18.2.2 (r_22 ^^^ (1 : Int64)) (x7 + (1 : Int32)) r_24 h_25) (cwV 3 hts gX4_findFor_X4_lookAt rfl rfl rfl (by decide +kernel) ⟨Nat.le_of_ble_eq_true rfl, Nat.le_of_ble_eq_true rfl⟩) (preV_wr (ci := 3) (q0 := 0) [.long (r_22 ^^^ (1 : Int64)), .int (x7 + (1 : Int32)), .ref hre] hP_r_24 hD_r_24 hB rfl rfl) rfl rfl hl.1 rfl (lv_room (Nat.le_of_ble_eq_true rfl)) dX4_findFor_96 ⟨Nat.zero_le _, Nat.zero_le _⟩) hP hD hS hA rfl rfl (by decide) (by decide) (fun H26 locs27 hP hD hS => ?_)
      have hP : va_P D vwCl [(hun, .inr (3, [.int r_24.1, .int r_24.2.1, .int r_24.2.2, .long uG])), (hre, .inr (2, [.ref hrr, .ref hrs, .int r_18.1])), (hrr, .inl (cy 1, 200, .inr (.inl r_18.2.1))), (hrs, .inl (cy 1, 512, .inr (.inl r_18.2.2)))] H26 := hP.sub [0, 1, 2, 3] rfl
      have hD : va_D A [(hun, .inr (3, [.int r_24.1, .int r_24.2.1, .int r_24.2.2, .long uG])), (hre, .inr (2, [.ref hrr, .ref hrs, .int r_18.1])), (hrr, .inl (cy 1, 200, .inr (.inl r_18.2.1))), (hrs, .inl (cy 1, 512, .inr (.inl r_18.2.2)))] := hD.sub [0, 1, 2, 3] (by decide) rfl
      refine lv_iinc (v := (x7 + (1 : Int32))) (lv' := [(7, .int (x7 + (1 : Int32))), (5, .long r_22), (0, .ref hun), (1, .long x1), (3, .ref hre), (4, .int x4)]) hx hb dX4_findFor_99 hl (k := 5) rfl rfl (by decide) rfl (fun ls hl => ?_)
      refine lv_goto (tgt := 52) hx hb dX4_findFor_102 (by decide) ?_
      exact hself _ _ _ _ _ _ _ _ _ _ _ _ hP hD hS (lv_sub hl [2, 3, 4, 5, 1, 0] rfl) hf
theorem wX4_findFor_L52 {p : Program} {l : Launch} {e : Env} {s : State} {m : MethodId} {args : Array Value} {below : List Frame} {meth : Method} {c : Code} {D : va_G} {cy : Nat → ClassId} {A : Nat → Prop} {hun hre hrr hrs : Nat} {r0 : Int32 × Int32 × Int32 × Int64 × Int32 × (Nat → Int64) × (Nat → Int64)} (E0 : En p m c cX4_findFor 8 s args wsX4_findFor RX4 meth none D cy) (N : Nat) (x1 : Int64) (x4 : Int32) (hA : ∀ q, s.heap.size ≤ q → A q) (k : Int32 → Int32 → Int32 → Int64 → Int32 → (Nat → Int64) → (Nat → Int64) → Option (Int32 × Int32 × Int32 × Int64 × Int32 × (Nat → Int64) × (Nat → Int64))) (hk : ∀ (u2 : Int32) (u3 : Int32) (u4 : Int32) (uG : Int64) (eN : Int32) (eR : Nat → Int64) (eS : Nat → Int64) (H : Heap) (locs : List Loc) (ls : Array Slot), va_P D vwCl [(hun, .inr (3, [.int u2, .int u3, .int u4, .long uG])), (hre, .inr (2, [.ref hrr, .ref hrs, .int eN])), (hrr, .inl (cy 1, 200, .inr (.inl eR))), (hrs, .inl (cy 1, 512, .inr (.inl eS)))] H → va_D A [(hun, .inr (3, [.int u2, .int u3, .int u4, .long uG])), (hre, .inr (2, [.ref hrr, .ref hrs, .int eN])), (hrr, .inl (cy 1, 200, .inr (.inl eR))), (hrs, .inl (cy 1, 512, .inr (.inl eS)))] → va_S A s.heap H locs → lv_has ls 8 [] → k u2 u3 u4 uG eN eR eS = some r0 → GX4_findFor p l e s m args below meth c D cy A hun hre hrr hrs  r0 H locs (F0 m 105 ls [])) : ∀ (n : Nat), ∀ (u2 : Int32) (u3 : Int32) (u4 : Int32) (uG : Int64) (eN : Int32) (eR : Nat → Int64) (eS : Nat → Int64) (x5 : Int64) (x7 : Int32) (H : Heap) (locs : List Loc) (ls : Array Slot), va_P D vwCl [(hun, .inr (3, [.int u2, .int u3, .int u4, .long uG])), (hre, .inr (2, [.ref hrr, .ref hrs, .int eN])), (hrr, .inl (cy 1, 200, .inr (.inl eR))), (hrs, .inl (cy 1, 512, .inr (.inl eS)))] H → va_D A [(hun, .inr (3, [.int u2, .int u3, .int u4, .long uG])), (hre, .inr (2, [.ref hrr, .ref hrs, .int eN])), (hrr, .inl (cy 1, 200, .inr (.inl eR))), (hrs, .inl (cy 1, 512, .inr (.inl eS)))] → va_S A s.heap H locs → lv_has ls 8 [(0, .ref hun), (1, .long x1), (3, .ref hre), (4, .int x4), (5, .long x5), (7, .int x7)] → fX4_findFor_L52 N x1 x4 k n u2 u3 u4 uG eN eR eS x5 x7 = some r0 → GX4_findFor p l e s m args below meth c D cy A hun hre hrr hrs  r0 H locs (F0 m 52 ls []) := by
  intro n
  induction n with
  | zero => intro u2 u3 u4 uG eN eR eS x5 x7 H locs ls hP hD hS hl hf; cases hf
  | succ n ih => exact wX4_findFor_B52 E0 N x1 x4 hA _ ih k hk
set_option maxHeartbeats 4000000 in
set_option maxRecDepth 100000 in
theorem ctX4_findFor (l : Launch) (D : va_G) (cy : Nat → ClassId) (N : Nat) (hun hre hrr hrs : Nat) (sz : Nat) (u2 : Int32) (u3 : Int32) (u4 : Int32) (uG : Int64) (eN : Int32) (eR : Nat → Int64) (eS : Nat → Int64) (x1 : Int64) (r0 : Int32 × Int32 × Int32 × Int64 × Int32 × (Nat → Int64) × (Nat → Int64)) (hf : fX4_findFor N u2 u3 u4 uG eN eR eS x1 = some r0) : Met l yX4_findFor wsX4_findFor rX4_findFor (va_Pc [.ref hun, .long x1, .ref hre] (Wr D cy [(hun, .inr (3, [.int u2, .int u3, .int u4, .long uG])), (hre, .inr (2, [.ref hrr, .ref hrs, .int eN])), (hrr, .inl (cy 1, 200, .inr (.inl eR))), (hrs, .inl (cy 1, 512, .inr (.inl eS)))] sz)) (Qwv D (va_A [(hun, .inr (3, [.int u2, .int u3, .int u4, .long uG])), (hre, .inr (2, [.ref hrr, .ref hrs, .int eN])), (hrr, .inl (cy 1, 200, .inr (.inl eR))), (hrs, .inl (cy 1, 512, .inr (.inl eS)))] sz) [(hun, .inr (3, [.int r0.1, .int r0.2.1, .int r0.2.2.1, .long r0.2.2.2.1])), (hre, .inr (2, [.ref hrr, .ref hrs, .int r0.2.2.2.2.1])), (hrr, .inl (cy 1, 200, .inr (.inl r0.2.2.2.2.2.1))), (hrs, .inl (cy 1, 512, .inr (.inl r0.2.2.2.2.2.2)))]) 0 0 (va_A [(hun, .inr (3, [.int u2, .int u3, .int u4, .long uG])), (hre, .inr (2, [.ref hrr, .ref hrs, .int eN])), (hrr, .inl (cy 1, 200, .inr (.inl eR))), (hrs, .inl (cy 1, 512, .inr (.inl eS)))] sz) := by
  refine Met.ofW (cc := cX4_findFor) (maxL := 8) (ret := none) (by decide) rfl ?_
  intro p e s m args below meth c s₁ B hml hv
  obtain ⟨rfl, hsz, hP, hD0, hB⟩ := hv
  have hx := B.exec
  have hb := B.bytes
  have hr := B.returns
  have hts := atoms_spec (ws := wsX4_findFor) B.pre
  have hown : s.vm.findClass RX4 = some m.cls := findClass_of_methodNamed B.named
  have hlocks := B.notSynchronized
  have hK := hB.1
  have hN := hB.2
  subst hsz
  have hD := hD0.self (sz := s.heap.size)
  have hA : ∀ q : Nat, s.heap.size ≤ q → va_A [(hun, .inr (3, [.int u2, .int u3, .int u4, .long uG])), (hre, .inr (2, [.ref hrr, .ref hrs, .int eN])), (hrr, .inl (cy 1, 200, .inr (.inl eR))), (hrs, .inl (cy 1, 512, .inr (.inl eS)))] s.heap.size q := fun q h => Or.inr h
  generalize va_A [(hun, .inr (3, [.int u2, .int u3, .int u4, .long uG])), (hre, .inr (2, [.ref hrr, .ref hrs, .int eN])), (hrr, .inl (cy 1, 200, .inr (.inl eR))), (hrs, .inl (cy 1, 512, .inr (.inl eS)))] s.heap.size = A at hD hA ⊢
  have hS : va_S A s.heap s.heap [] := va_S.rf
  have hl := lv_entry ([.ref hun, .long x1, .ref hre]) (n := 8) (Nat.le_of_ble_eq_true rfl)
  rw [lg_entry_eq]
  generalize (lg_sl ([.ref hun, .long x1, .ref hre]) ++ List.replicate (8 - (lg_sl ([.ref hun, .long x1, .ref hre])).length) Slot.unset).toArray = ls at hl ⊢
  have hl : lv_has ls 8 [(0, .ref hun), (1, .long x1), (3, .ref hre)] := hl
  have E0 : En p m c cX4_findFor 8 s ([.ref hun, .long x1, .ref hre] : List Value).toArray wsX4_findFor RX4 meth none D cy := ⟨⟨hx, hb, hml, hown, hts⟩, hr, hlocks, hB⟩
  unfold fX4_findFor at hf
  refine lv_aload_n hx hb dX4_findFor_0 rfl (lv_at hl 0 rfl) ?_
  refine va_get (D := D) (ci := 3) (v := .long uG) (C := RX4) (T := TX4) (N := 4) hx hb hts inX4_findFor_X4 hown hK hP 0 rfl rfl 3 (by decide) (hts _ mX4_findFor_0) (fun _ h9 => h9) rfl dX4_findFor_1 ?_
  refine lv_lload_n hx hb dX4_findFor_4 rfl (lv_at hl 1 rfl) ?_
  refine zz_lc_ne (tgt := 10) hx hb dX4_findFor_5 dX4_findFor_6 (by decide) (fun c_1 => ?_) (fun c_1 => ?_)
  · have hf := ite_f hf c_1
    refine lv_aload_n hx hb dX4_findFor_10 rfl (lv_at hl 0 rfl) ?_
    refine lv_lload_n hx hb dX4_findFor_11 rfl (lv_at hl 1 rfl) ?_
    refine va_put (D := D) (ci := 3) (v := .long x1) (ty := .long) (C := RX4) (T := TX4) (N := 4) hx hb hts inX4_findFor_X4 tyX4 tyX4_ok nmX4 hown hK hP hD hS 0 rfl rfl 3 (by decide) (hts _ mX4_findFor_0) (fun _ h9 => h9) rfl (by decide +kernel) rfl rfl (Nat.le_of_ble_eq_true rfl) dX4_findFor_12 (fun H2 locs3 hP hD hS => ?_)
    have hP : va_P D vwCl [(hun, .inr (3, [.int u2, .int u3, .int u4, .long x1])), (hre, .inr (2, [.ref hrr, .ref hrs, .int eN])), (hrr, .inl (cy 1, 200, .inr (.inl eR))), (hrs, .inl (cy 1, 512, .inr (.inl eS)))] H2 := hP
    have hD : va_D A [(hun, .inr (3, [.int u2, .int u3, .int u4, .long x1])), (hre, .inr (2, [.ref hrr, .ref hrs, .int eN])), (hrr, .inl (cy 1, 200, .inr (.inl eR))), (hrs, .inl (cy 1, 512, .inr (.inl eS)))] := hD
    refine lv_aload_n hx hb dX4_findFor_15 rfl (lv_at hl 0 rfl) ?_
    refine lv_sipush (v := (201 : Int32)) hx hb dX4_findFor_16 (by decide) ?_
    refine va_put (D := D) (ci := 3) (v := .int (201 : Int32)) (ty := .int) (C := RX4) (T := TX4) (N := 4) hx hb hts inX4_findFor_X4 tyX4 tyX4_ok nmX4 hown hK hP hD hS 0 rfl rfl 0 (by decide) (hts _ mX4_findFor_1) (fun _ h9 => h9) rfl (by decide +kernel) rfl rfl (Nat.le_of_ble_eq_true rfl) dX4_findFor_19 (fun H4 locs5 hP hD hS => ?_)
    have hP : va_P D vwCl [(hun, .inr (3, [.int (201 : Int32), .int u3, .int u4, .long x1])), (hre, .inr (2, [.ref hrr, .ref hrs, .int eN])), (hrr, .inl (cy 1, 200, .inr (.inl eR))), (hrs, .inl (cy 1, 512, .inr (.inl eS)))] H4 := hP
    have hD : va_D A [(hun, .inr (3, [.int (201 : Int32), .int u3, .int u4, .long x1])), (hre, .inr (2, [.ref hrr, .ref hrs, .int eN])), (hrr, .inl (cy 1, 200, .inr (.inl eR))), (hrs, .inl (cy 1, 512, .inr (.inl eS)))] := hD
    refine lv_aload_n hx hb dX4_findFor_22 rfl (lv_at hl 0 rfl) ?_
    refine lv_sipush (v := (201 : Int32)) hx hb dX4_findFor_23 (by decide) ?_
    refine va_put (D := D) (ci := 3) (v := .int (201 : Int32)) (ty := .int) (C := RX4) (T := TX4) (N := 4) hx hb hts inX4_findFor_X4 tyX4 tyX4_ok nmX4 hown hK hP hD hS 0 rfl rfl 1 (by decide) (hts _ mX4_findFor_2) (fun _ h9 => h9) rfl (by decide +kernel) rfl rfl (Nat.le_of_ble_eq_true rfl) dX4_findFor_26 (fun H6 locs7 hP hD hS => ?_)
    have hP : va_P D vwCl [(hun, .inr (3, [.int (201 : Int32), .int (201 : Int32), .int u4, .long x1])), (hre, .inr (2, [.ref hrr, .ref hrs, .int eN])), (hrr, .inl (cy 1, 200, .inr (.inl eR))), (hrs, .inl (cy 1, 512, .inr (.inl eS)))] H6 := hP
    have hD : va_D A [(hun, .inr (3, [.int (201 : Int32), .int (201 : Int32), .int u4, .long x1])), (hre, .inr (2, [.ref hrr, .ref hrs, .int eN])), (hrr, .inl (cy 1, 200, .inr (.inl eR))), (hrs, .inl (cy 1, 512, .inr (.inl eS)))] := hD
    refine lv_aload_n hx hb dX4_findFor_29 rfl (lv_at hl 0 rfl) ?_
    refine lv_sipush (v := (201 : Int32)) hx hb dX4_findFor_30 (by decide) ?_
    refine va_put (D := D) (ci := 3) (v := .int (201 : Int32)) (ty := .int) (C := RX4) (T := TX4) (N := 4) hx hb hts inX4_findFor_X4 tyX4 tyX4_ok nmX4 hown hK hP hD hS 0 rfl rfl 2 (by decide) (hts _ mX4_findFor_3) (fun _ h9 => h9) rfl (by decide +kernel) rfl rfl (Nat.le_of_ble_eq_true rfl) dX4_findFor_33 (fun H8 locs9 hP hD hS => ?_)
    have hP : va_P D vwCl [(hun, .inr (3, [.int (201 : Int32), .int (201 : Int32), .int (201 : Int32), .long x1])), (hre, .inr (2, [.ref hrr, .ref hrs, .int eN])), (hrr, .inl (cy 1, 200, .inr (.inl eR))), (hrs, .inl (cy 1, 512, .inr (.inl eS)))] H8 := hP
    have hD : va_D A [(hun, .inr (3, [.int (201 : Int32), .int (201 : Int32), .int (201 : Int32), .long x1])), (hre, .inr (2, [.ref hrr, .ref hrs, .int eN])), (hrr, .inl (cy 1, 200, .inr (.inl eR))), (hrs, .inl (cy 1, 512, .inr (.inl eS)))] := hD
    refine lv_lload_n hx hb dX4_findFor_36 rfl (lv_at hl 1 rfl) ?_
    obtain ⟨r_10, h_11, hf⟩ := bind_some hf
    have hP_r_10 : va_P D vwCl [] H8 := hP.sub [] rfl
    refine cz_i (va_runSN (As := [.long x1]) (rest := []) ⟨hx, hb, hml, hown, hts⟩ (ctX2_degree l D cy N   x1 r_10 h_11) ⟨va_cnB 1 hts gX4_findFor_X2_degree_n25 rfl rfl rfl (nwX4_25 hN) (hts _ mX4_findFor_4) (by decide +kernel) ⟨Nat.le_of_ble_eq_true rfl, Nat.le_of_ble_eq_true rfl⟩, hts _ mX4_findFor_5, trivial⟩ (preS_rd [.long x1] hP_r_10 hB) rfl rfl hl.1 rfl (lv_room (Nat.le_of_ble_eq_true rfl)) dX4_findFor_37 ⟨Nat.zero_le _, Nat.zero_le _⟩) ?_
    refine lv_istore (lv' := [(4, .int r_10), (0, .ref hun), (1, .long x1), (3, .ref hre)]) hx hb dX4_findFor_40 hl (by decide) rfl (fun ls hl => ?_)
    refine lv_lconst (v := (1 : Int64)) hx hb dX4_findFor_42 (by decide) ?_
    refine lv_lstore (lv' := [(5, .long (1 : Int64)), (4, .int r_10), (0, .ref hun), (1, .long x1), (3, .ref hre)]) hx hb dX4_findFor_43 hl (by decide) rfl (fun ls hl => ?_)
    refine lv_aload_n hx hb dX4_findFor_45 rfl (lv_at hl 4 rfl) ?_
    obtain ⟨r_12, h_13, hf⟩ := bind_some hf
    have hP_r_12 : va_P D vwCl [(hre, .inr (2, [.ref hrr, .ref hrs, .int eN])), (hrs, .inl (cy 1, 512, .inr (.inl eS)))] H8 := hP.sub [1, 3] rfl
    have hD_r_12 : va_D A [(hre, .inr (2, [.ref hrr, .ref hrs, .int eN])), (hrs, .inl (cy 1, 512, .inr (.inl eS)))] := hD.sub [1, 3] (by decide) rfl
    refine cj_v (wc := [(hre, .inr (2, [.ref hrr, .ref hrs, .int eN])), (hrs, .inl (cy 1, 512, .inr (.inl eS)))]) (wr := [(hun, .inr (3, [.int (201 : Int32), .int (201 : Int32), .int (201 : Int32), .long x1])), (hrr, .inl (cy 1, 200, .inr (.inl eR)))]) (w1 := [(hre, .inr (2, [.ref hrr, .ref hrs, .int r_12.1])), (hrs, .inl (cy 1, 512, .inr (.inl r_12.2)))]) [1, 3] [0, 2] (va_runVN (As := []) (rest := []) ⟨hx, hb, hml, hown, hts⟩ (ctX3_clear l D cy N hre hrr hrs H8.size eN eS  r_12 h_13) ⟨va_cnB 0 hts gX4_findFor_X3_clear_n31 rfl rfl rfl (nwX4_31 hN) (hts _ mX4_findFor_6) (by decide +kernel) ⟨Nat.le_of_ble_eq_true rfl, Nat.le_of_ble_eq_true rfl⟩, hts _ mX4_findFor_7, hts _ mX4_findFor_8⟩ (preV_wr (ci := 2) (q0 := 0) [] hP_r_12 hD_r_12 hB rfl rfl) rfl rfl hl.1 rfl (lv_room (Nat.le_of_ble_eq_true rfl)) dX4_findFor_46 ⟨Nat.zero_le _, Nat.zero_le _⟩) hP hD hS hA rfl rfl (by decide) (by decide) (fun H14 locs15 hP hD hS => ?_)
    have hP : va_P D vwCl [(hun, .inr (3, [.int (201 : Int32), .int (201 : Int32), .int (201 : Int32), .long x1])), (hre, .inr (2, [.ref hrr, .ref hrs, .int r_12.1])), (hrr, .inl (cy 1, 200, .inr (.inl eR))), (hrs, .inl (cy 1, 512, .inr (.inl r_12.2)))] H14 := hP.sub [0, 2, 1, 3] rfl
    have hD : va_D A [(hun, .inr (3, [.int (201 : Int32), .int (201 : Int32), .int (201 : Int32), .long x1])), (hre, .inr (2, [.ref hrr, .ref hrs, .int r_12.1])), (hrr, .inl (cy 1, 200, .inr (.inl eR))), (hrs, .inl (cy 1, 512, .inr (.inl r_12.2)))] := hD.sub [0, 2, 1, 3] (by decide) rfl
    refine lv_iconst (v := (1 : Int32)) hx hb dX4_findFor_49 (by decide) ?_
    refine lv_istore (lv' := [(7, .int (1 : Int32)), (5, .long (1 : Int64)), (4, .int r_10), (0, .ref hun), (1, .long x1), (3, .ref hre)]) hx hb dX4_findFor_50 hl (by decide) rfl (fun ls hl => ?_)
    refine wX4_findFor_L52 E0 N x1 r_10 hA _ (fun u2_28 u3_29 u4_30 uG_31 eN_32 eR_33 eS_34 H35 locs36 ls hP hD hS hl hf => ?_) N _ _ _ _ _ _ _ _ _ _ _ _ hP hD hS (lv_sub hl [3, 4, 5, 2, 1, 0] rfl) hf
    cases hf
    exact W.vret hx hb hr (fun t ht hW => ⟨⟨(), rfl, trivial, by rw [ht]; exact hP, hD⟩, hS.F ht⟩) hS.2.2 dX4_findFor_105
  · have hf := ite_t hf c_1
    cases hf
    exact W.vret hx hb hr (fun t ht hW => ⟨⟨(), rfl, trivial, by rw [ht]; exact hP, hD⟩, hS.F ht⟩) hS.2.2 dX4_findFor_9

/-! ===== constructors ===== -/
theorem va_RA_uniq {U : State} {c1 c2 : ClassId} {ty : FieldType} (h1 : va_RA U c1 ty) (h2 : va_RA U c2 ty) : c1 = c2 := by
  cases ty with
  | object C =>
    obtain ⟨_, _, _, _, _, a⟩ := h1
    obtain ⟨_, _, _, _, _, b⟩ := h2
    exact Option.some.inj (a.symm.trans b)
  | _ => exact Option.some.inj (Eq.trans (Eq.symm h1) h2)
theorem cyq {D : va_G} {cl : List vw_C} {tys : List (ClassId × FieldType)} {U : State} {cA c : ClassId} {ty : FieldType} (hK : va_K D cl (tys ++ [(cA, ty)]) U) (k : Nat) (h : tys[k]? = some (c, ty)) : c = cA := by
  have h1 : (tys ++ [(cA, ty)])[tys.length]? = some (cA, ty) := by rw [List.getElem?_append_right (Nat.le_refl _), Nat.sub_self]; rfl
  have hk : k < tys.length := (List.getElem?_eq_some_iff.mp h).1
  have h2 : (tys ++ [(cA, ty)])[k]? = some (c, ty) := by rw [List.getElem?_append_left hk]; exact h
  exact va_RA_uniq (hK.2 _ _ h2).2 (hK.2 _ _ h1).2
theorem preS_wr {D : va_G} {cy : Nat → ClassId} {ws : va_W} {A : Nat → Prop} {s : State} {H : Heap} (As : List Value) (hP : va_P D vwCl ws H) (hD : va_D A ws) (hB : Bg D cy s) : PreS s H (va_Pc As (Wr D cy ws H.size)) As := ⟨Wr.blind, fun U hU hW => ⟨rfl, by rw [hU], by rw [hU]; exact hP, hD.weaken (fun _ _ _ _ => trivial), hB.moved hW⟩⟩
abbrev rX0_init : Room := { frames := 1, cells := 2, slots := 18, locals := 12 }
abbrev iX0 (h0 : Nat) : va_W := [(h0, .inr (0, [.null, .null, .int 0, .long 0, .long 0]))]
abbrev oX0 (cy : Nat → ClassId) (h0 q7 q15 : Nat) : va_W := [(h0, .inr (0, [.ref q7, .ref q15, .int 0, .long 0, .long 0])), (q7, .inl (cy 1, 9, .inr (.inl (fun _ => 0)))), (q15, .inl (cy 0, 9, .inl (fun _ => 0)))]
set_option maxHeartbeats 4000000 in
set_option maxRecDepth 100000 in
theorem ctX0_init (l : Launch) (D : va_G) (cy : Nat → ClassId) (h0 sz : Nat) : Met l yX0_init wsX0_init rX0_init (va_Pc [.ref h0] (Wr D cy (iX0 h0) sz)) (va_Qv (S := Nat × Nat) (fun _ => True) (fun u => Qw D (va_A (iX0 h0) sz) (oX0 cy h0 u.1 u.2)) (va_A (iX0 h0) sz)) 2 18 (va_A (iX0 h0) sz) := by
  refine Met.ofW (cc := cX0_init) (maxL := 1) (ret := none) (by decide) rfl ?_
  intro p e s m args below meth c s₁ B hml hv
  obtain ⟨rfl, hsz, hP, hD0, hB⟩ := hv
  have hx := B.exec
  have hb := B.bytes
  have hr := B.returns
  have hts := atoms_spec (ws := wsX0_init) B.pre
  have hown : s.vm.findClass RX0 = some m.cls := findClass_of_methodNamed B.named
  have hlocks := B.notSynchronized
  have hin : meth.name = "<init>" := (name_of_methodNamed B.named B.method).1
  have hK := hB.1
  have hN := hB.2
  subst hsz
  have hD := hD0.self (sz := s.heap.size)
  have hA : ∀ q : Nat, s.heap.size ≤ q → va_A (iX0 h0) s.heap.size q := fun q h => Or.inr h
  generalize va_A (iX0 h0) s.heap.size = A at hD hA ⊢
  have hS : va_S A s.heap s.heap [] := va_S.rf
  have hl := lv_entry ([.ref h0]) (n := 1) (Nat.le_of_ble_eq_true rfl)
  rw [lg_entry_eq]
  generalize (lg_sl ([.ref h0]) ++ List.replicate (1 - (lg_sl ([.ref h0])).length) Slot.unset).toArray = ls at hl ⊢
  have hl : lv_has ls 1 [(0, .ref h0)] := hl
  refine lv_aload_n hx hb dX0_init_0 rfl (lv_at hl 0 rfl) ?_
  refine W.objInit hx hb hown (hts (.methodLink RX0 3 objectInit) (List.mem_of_getElem? (i := 1) rfl)) (hts (.instanceMethod objectInit) (List.mem_of_getElem? (i := 2) rfl)) (hts _ (List.mem_of_getElem? (i := 3) rfl)) rfl (by rw [hml]; exact hl.1) rfl dX0_init_1 (Nat.le_of_ble_eq_true rfl) (Nat.le_of_ble_eq_true rfl) ?_
  refine W.eq (g2 := F0 m 4 ls []) rfl ?_
  refine lv_aload_n hx hb dX0_init_4 rfl (lv_at hl 0 rfl) ?_
  refine lv_bipush (v := (9 : Int32)) hx hb dX0_init_5 (by decide) ?_
  refine va_newa (atype := .long) (N' := 9) (a0 := (9, .inr (.inl (fun _ => 0)))) (ty := .long) (n := (9 : Int32)) hx hb (hts (.arrayClass .long) (List.mem_of_getElem? (i := 4) rfl)) rfl hK hP hD hS hA (fun _ => rfl) (by decide +kernel) (by decide +kernel) (by decide +kernel) (Nat.le_of_ble_eq_true rfl) (Nat.le_of_ble_eq_true rfl) dX0_init_7 (fun q7 cA H hK2 hP hD hS => ?_)
  obtain rfl := cyq hK2 1 rfl
  have hP : va_P D vwCl [(h0, .inr (0, [.null, .null, .int 0, .long 0, .long 0])), (q7, .inl (cy 1, 9, .inr (.inl (fun _ => 0))))] H := hP
  have hD : va_D A [(h0, .inr (0, [.null, .null, .int 0, .long 0, .long 0])), (q7, .inl (cy 1, 9, .inr (.inl (fun _ => 0))))] := hD
  refine W.widen (k := 1) (n := 9) (Nat.le_of_ble_eq_true rfl) (Nat.le_of_ble_eq_true rfl) ?_
  refine va_putF (D := D) (ci := 0) (v := .ref q7) (ty := .array .long) (C := RX0) (T := TX0) (N := 5) hx hb hts (fun w h => List.mem_cons_of_mem _ (List.mem_append_right _ h)) tyX0 tyX0_ok nmX0 hown hK hP hD hS 0 rfl rfl 0 (by decide) (hts (.fieldLink RX0 11 "SumForms$Factors" "polynomials" "[J") (List.mem_of_getElem? (i := 5) rfl)) (fun _ h9 => h9) rfl hin rfl (by decide +kernel) rfl rfl (Nat.le_of_ble_eq_true rfl) dX0_init_9 (fun H locs hP hD hS => ?_)
  have hP : va_P D vwCl [(h0, .inr (0, [.ref q7, .null, .int 0, .long 0, .long 0])), (q7, .inl (cy 1, 9, .inr (.inl (fun _ => 0))))] H := hP
  have hD : va_D A [(h0, .inr (0, [.ref q7, .null, .int 0, .long 0, .long 0])), (q7, .inl (cy 1, 9, .inr (.inl (fun _ => 0))))] := hD
  refine lv_aload_n hx hb dX0_init_12 rfl (lv_at hl 0 rfl) ?_
  refine lv_bipush (v := (9 : Int32)) hx hb dX0_init_13 (by decide) ?_
  refine va_newa (atype := .int) (N' := 9) (a0 := (9, .inl (fun _ => 0))) (ty := .int) (n := (9 : Int32)) hx hb (hts (.arrayClass .int) (List.mem_of_getElem? (i := 6) rfl)) rfl hK hP hD hS hA (fun _ => rfl) (by decide +kernel) (by decide +kernel) (by decide +kernel) (Nat.le_of_ble_eq_true rfl) (Nat.le_of_ble_eq_true rfl) dX0_init_15 (fun q15 cA H hK2 hP hD hS => ?_)
  obtain rfl := cyq hK2 0 rfl
  have hP : va_P D vwCl [(h0, .inr (0, [.ref q7, .null, .int 0, .long 0, .long 0])), (q7, .inl (cy 1, 9, .inr (.inl (fun _ => 0)))), (q15, .inl (cy 0, 9, .inl (fun _ => 0)))] H := hP
  have hD : va_D A [(h0, .inr (0, [.ref q7, .null, .int 0, .long 0, .long 0])), (q7, .inl (cy 1, 9, .inr (.inl (fun _ => 0)))), (q15, .inl (cy 0, 9, .inl (fun _ => 0)))] := hD
  refine W.widen (k := 2) (n := 18) (Nat.le_of_ble_eq_true rfl) (Nat.le_of_ble_eq_true rfl) ?_
  refine va_putF (D := D) (ci := 0) (v := .ref q15) (ty := .array .int) (C := RX0) (T := TX0) (N := 5) hx hb hts (fun w h => List.mem_cons_of_mem _ (List.mem_append_right _ h)) tyX0 tyX0_ok nmX0 hown hK hP hD hS 0 rfl rfl 1 (by decide) (hts (.fieldLink RX0 15 "SumForms$Factors" "times" "[I") (List.mem_of_getElem? (i := 7) rfl)) (fun _ h9 => h9) rfl hin rfl (by decide +kernel) rfl rfl (Nat.le_of_ble_eq_true rfl) dX0_init_17 (fun H locs hP hD hS => ?_)
  have hP : va_P D vwCl [(h0, .inr (0, [.ref q7, .ref q15, .int 0, .long 0, .long 0])), (q7, .inl (cy 1, 9, .inr (.inl (fun _ => 0)))), (q15, .inl (cy 0, 9, .inl (fun _ => 0)))] H := hP
  have hD : va_D A [(h0, .inr (0, [.ref q7, .ref q15, .int 0, .long 0, .long 0])), (q7, .inl (cy 1, 9, .inr (.inl (fun _ => 0)))), (q15, .inl (cy 0, 9, .inl (fun _ => 0)))] := hD
  refine lv_aload_n hx hb dX0_init_20 rfl (lv_at hl 0 rfl) ?_
  refine lv_iconst (v := (0 : Int32)) hx hb dX0_init_21 (by decide) ?_
  refine va_put (D := D) (ci := 0) (v := .int 0) (ty := .int) (C := RX0) (T := TX0) (N := 5) hx hb hts (fun w h => List.mem_cons_of_mem _ (List.mem_append_right _ h)) tyX0 tyX0_ok nmX0 hown hK hP hD hS 0 rfl rfl 2 (by decide) (hts (.fieldLink RX0 19 "SumForms$Factors" "size" "I") (List.mem_of_getElem? (i := 8) rfl)) (fun _ h9 => h9) rfl (by decide +kernel) rfl rfl (Nat.le_of_ble_eq_true rfl) dX0_init_22 (fun H locs hP hD hS => ?_)
  have hP : va_P D vwCl [(h0, .inr (0, [.ref q7, .ref q15, .int 0, .long 0, .long 0])), (q7, .inl (cy 1, 9, .inr (.inl (fun _ => 0)))), (q15, .inl (cy 0, 9, .inl (fun _ => 0)))] H := hP
  have hD : va_D A [(h0, .inr (0, [.ref q7, .ref q15, .int 0, .long 0, .long 0])), (q7, .inl (cy 1, 9, .inr (.inl (fun _ => 0)))), (q15, .inl (cy 0, 9, .inl (fun _ => 0)))] := hD
  refine lv_aload_n hx hb dX0_init_25 rfl (lv_at hl 0 rfl) ?_
  refine lv_lconst (v := (0 : Int64)) hx hb dX0_init_26 (by decide) ?_
  refine va_put (D := D) (ci := 0) (v := .long 0) (ty := .long) (C := RX0) (T := TX0) (N := 5) hx hb hts (fun w h => List.mem_cons_of_mem _ (List.mem_append_right _ h)) tyX0 tyX0_ok nmX0 hown hK hP hD hS 0 rfl rfl 3 (by decide) (hts (.fieldLink RX0 23 "SumForms$Factors" "period" "J") (List.mem_of_getElem? (i := 9) rfl)) (fun _ h9 => h9) rfl (by decide +kernel) rfl rfl (Nat.le_of_ble_eq_true rfl) dX0_init_27 (fun H locs hP hD hS => ?_)
  have hP : va_P D vwCl [(h0, .inr (0, [.ref q7, .ref q15, .int 0, .long 0, .long 0])), (q7, .inl (cy 1, 9, .inr (.inl (fun _ => 0)))), (q15, .inl (cy 0, 9, .inl (fun _ => 0)))] H := hP
  have hD : va_D A [(h0, .inr (0, [.ref q7, .ref q15, .int 0, .long 0, .long 0])), (q7, .inl (cy 1, 9, .inr (.inl (fun _ => 0)))), (q15, .inl (cy 0, 9, .inl (fun _ => 0)))] := hD
  refine lv_aload_n hx hb dX0_init_30 rfl (lv_at hl 0 rfl) ?_
  refine lv_lconst (v := (0 : Int64)) hx hb dX0_init_31 (by decide) ?_
  refine va_put (D := D) (ci := 0) (v := .long 0) (ty := .long) (C := RX0) (T := TX0) (N := 5) hx hb hts (fun w h => List.mem_cons_of_mem _ (List.mem_append_right _ h)) tyX0 tyX0_ok nmX0 hown hK hP hD hS 0 rfl rfl 4 (by decide) (hts (.fieldLink RX0 27 "SumForms$Factors" "foundFor" "J") (List.mem_of_getElem? (i := 10) rfl)) (fun _ h9 => h9) rfl (by decide +kernel) rfl rfl (Nat.le_of_ble_eq_true rfl) dX0_init_32 (fun H locs hP hD hS => ?_)
  have hP : va_P D vwCl [(h0, .inr (0, [.ref q7, .ref q15, .int 0, .long 0, .long 0])), (q7, .inl (cy 1, 9, .inr (.inl (fun _ => 0)))), (q15, .inl (cy 0, 9, .inl (fun _ => 0)))] H := hP
  have hD : va_D A [(h0, .inr (0, [.ref q7, .ref q15, .int 0, .long 0, .long 0])), (q7, .inl (cy 1, 9, .inr (.inl (fun _ => 0)))), (q15, .inl (cy 0, 9, .inl (fun _ => 0)))] := hD
  exact W.vret hx hb hr (fun t ht hW => ⟨⟨(q7, q15), rfl, trivial, by rw [ht]; exact hP, hD⟩, hS.F ht⟩) hS.2.2 dX0_init_35
abbrev rX4_init : Room := { frames := 1, cells := 0, slots := 0, locals := 12 }
abbrev iX4 (h0 : Nat) : va_W := [(h0, .inr (3, [.int 0, .int 0, .int 0, .long 0]))]
abbrev oX4 (cy : Nat → ClassId) (h0 : Nat) : va_W := [(h0, .inr (3, [.int 201, .int 201, .int 201, .long 0]))]
set_option maxHeartbeats 4000000 in
set_option maxRecDepth 100000 in
theorem ctX4_init (l : Launch) (D : va_G) (cy : Nat → ClassId) (h0 sz : Nat) : Met l yX4_init wsX4_init rX4_init (va_Pc [.ref h0] (Wr D cy (iX4 h0) sz)) (va_Qv (S := Unit) (fun _ => True) (fun u => Qw D (va_A (iX4 h0) sz) (oX4 cy h0)) (va_A (iX4 h0) sz)) 0 0 (va_A (iX4 h0) sz) := by
  refine Met.ofW (cc := cX4_init) (maxL := 1) (ret := none) (by decide) rfl ?_
  intro p e s m args below meth c s₁ B hml hv
  obtain ⟨rfl, hsz, hP, hD0, hB⟩ := hv
  have hx := B.exec
  have hb := B.bytes
  have hr := B.returns
  have hts := atoms_spec (ws := wsX4_init) B.pre
  have hown : s.vm.findClass RX4 = some m.cls := findClass_of_methodNamed B.named
  have hlocks := B.notSynchronized
  have hin : meth.name = "<init>" := (name_of_methodNamed B.named B.method).1
  have hK := hB.1
  have hN := hB.2
  subst hsz
  have hD := hD0.self (sz := s.heap.size)
  have hA : ∀ q : Nat, s.heap.size ≤ q → va_A (iX4 h0) s.heap.size q := fun q h => Or.inr h
  generalize va_A (iX4 h0) s.heap.size = A at hD hA ⊢
  have hS : va_S A s.heap s.heap [] := va_S.rf
  have hl := lv_entry ([.ref h0]) (n := 1) (Nat.le_of_ble_eq_true rfl)
  rw [lg_entry_eq]
  generalize (lg_sl ([.ref h0]) ++ List.replicate (1 - (lg_sl ([.ref h0])).length) Slot.unset).toArray = ls at hl ⊢
  have hl : lv_has ls 1 [(0, .ref h0)] := hl
  refine lv_aload_n hx hb dX4_init_0 rfl (lv_at hl 0 rfl) ?_
  refine W.objInit hx hb hown (hts (.methodLink RX4 3 objectInit) (List.mem_of_getElem? (i := 1) rfl)) (hts (.instanceMethod objectInit) (List.mem_of_getElem? (i := 2) rfl)) (hts _ (List.mem_of_getElem? (i := 3) rfl)) rfl (by rw [hml]; exact hl.1) rfl dX4_init_1 (Nat.le_of_ble_eq_true rfl) (Nat.le_of_ble_eq_true rfl) ?_
  refine W.eq (g2 := F0 m 4 ls []) rfl ?_
  refine lv_aload_n hx hb dX4_init_4 rfl (lv_at hl 0 rfl) ?_
  refine lv_sipush (v := (201 : Int32)) hx hb dX4_init_5 (by decide) ?_
  refine va_put (D := D) (ci := 3) (v := .int 201) (ty := .int) (C := RX4) (T := TX4) (N := 4) hx hb hts (fun w h => List.mem_cons_of_mem _ (List.mem_append_right _ h)) tyX4 tyX4_ok nmX4 hown hK hP hD hS 0 rfl rfl 0 (by decide) (hts (.fieldLink RX4 11 "SumForms$Unseen" "twoFrom" "I") (List.mem_of_getElem? (i := 4) rfl)) (fun _ h9 => h9) rfl (by decide +kernel) rfl rfl (Nat.le_of_ble_eq_true rfl) dX4_init_8 (fun H locs hP hD hS => ?_)
  have hP : va_P D vwCl [(h0, .inr (3, [.int 201, .int 0, .int 0, .long 0]))] H := hP
  have hD : va_D A [(h0, .inr (3, [.int 201, .int 0, .int 0, .long 0]))] := hD
  refine lv_aload_n hx hb dX4_init_11 rfl (lv_at hl 0 rfl) ?_
  refine lv_sipush (v := (201 : Int32)) hx hb dX4_init_12 (by decide) ?_
  refine va_put (D := D) (ci := 3) (v := .int 201) (ty := .int) (C := RX4) (T := TX4) (N := 4) hx hb hts (fun w h => List.mem_cons_of_mem _ (List.mem_append_right _ h)) tyX4 tyX4_ok nmX4 hown hK hP hD hS 0 rfl rfl 1 (by decide) (hts (.fieldLink RX4 15 "SumForms$Unseen" "threeFrom" "I") (List.mem_of_getElem? (i := 5) rfl)) (fun _ h9 => h9) rfl (by decide +kernel) rfl rfl (Nat.le_of_ble_eq_true rfl) dX4_init_15 (fun H locs hP hD hS => ?_)
  have hP : va_P D vwCl [(h0, .inr (3, [.int 201, .int 201, .int 0, .long 0]))] H := hP
  have hD : va_D A [(h0, .inr (3, [.int 201, .int 201, .int 0, .long 0]))] := hD
  refine lv_aload_n hx hb dX4_init_18 rfl (lv_at hl 0 rfl) ?_
  refine lv_sipush (v := (201 : Int32)) hx hb dX4_init_19 (by decide) ?_
  refine va_put (D := D) (ci := 3) (v := .int 201) (ty := .int) (C := RX4) (T := TX4) (N := 4) hx hb hts (fun w h => List.mem_cons_of_mem _ (List.mem_append_right _ h)) tyX4 tyX4_ok nmX4 hown hK hP hD hS 0 rfl rfl 2 (by decide) (hts (.fieldLink RX4 18 "SumForms$Unseen" "fourFrom" "I") (List.mem_of_getElem? (i := 6) rfl)) (fun _ h9 => h9) rfl (by decide +kernel) rfl rfl (Nat.le_of_ble_eq_true rfl) dX4_init_22 (fun H locs hP hD hS => ?_)
  have hP : va_P D vwCl [(h0, .inr (3, [.int 201, .int 201, .int 201, .long 0]))] H := hP
  have hD : va_D A [(h0, .inr (3, [.int 201, .int 201, .int 201, .long 0]))] := hD
  refine lv_aload_n hx hb dX4_init_25 rfl (lv_at hl 0 rfl) ?_
  refine lv_lconst (v := (0 : Int64)) hx hb dX4_init_26 (by decide) ?_
  refine va_put (D := D) (ci := 3) (v := .long 0) (ty := .long) (C := RX4) (T := TX4) (N := 4) hx hb hts (fun w h => List.mem_cons_of_mem _ (List.mem_append_right _ h)) tyX4 tyX4_ok nmX4 hown hK hP hD hS 0 rfl rfl 3 (by decide) (hts (.fieldLink RX4 21 "SumForms$Unseen" "foundFor" "J") (List.mem_of_getElem? (i := 7) rfl)) (fun _ h9 => h9) rfl (by decide +kernel) rfl rfl (Nat.le_of_ble_eq_true rfl) dX4_init_27 (fun H locs hP hD hS => ?_)
  have hP : va_P D vwCl [(h0, .inr (3, [.int 201, .int 201, .int 201, .long 0]))] H := hP
  have hD : va_D A [(h0, .inr (3, [.int 201, .int 201, .int 201, .long 0]))] := hD
  exact W.vret hx hb hr (fun t ht hW => ⟨⟨(), rfl, trivial, by rw [ht]; exact hP, hD⟩, hS.F ht⟩) hS.2.2 dX4_init_30

abbrev rX1_init : Room := { frames := 2, cells := 4, slots := 27, locals := 32 }
abbrev iX1 (h0 : Nat) : va_W := [(h0, .inr (1, [.int 0, .long 0, .long 0, .long 0, .int 0, .int 0, .null, .null]))]
abbrev oX1 (cy : Nat → ClassId) (h0 q5 v9_0 v9_1 q16 : Nat) : va_W := [(h0, .inr (1, [.int 0, .long 0, .long 0, .long 0, .int 0, .int 0, .ref q5, .ref q16])), (q5, .inr (0, [.ref v9_0, .ref v9_1, .int 0, .long 0, .long 0])), (v9_0, .inl (cy 1, 9, .inr (.inl (fun _ => 0)))), (v9_1, .inl (cy 0, 9, .inl (fun _ => 0))), (q16, .inr (3, [.int 201, .int 201, .int 201, .long 0]))]
set_option maxHeartbeats 4000000 in
set_option maxRecDepth 100000 in
theorem ctX1_init (l : Launch) (D : va_G) (cy : Nat → ClassId) (h0 sz : Nat) : Met l yX1_init wsX1_init rX1_init (va_Pc [.ref h0] (Wr D cy (iX1 h0) sz)) (va_Qv (S := Nat × Nat × Nat × Nat) (fun _ => True) (fun u => Qw D (va_A (iX1 h0) sz) (oX1 cy h0 u.1 u.2.1 u.2.2.1 u.2.2.2)) (va_A (iX1 h0) sz)) 4 27 (va_A (iX1 h0) sz) := by
  refine Met.ofW (cc := cX1_init) (maxL := 1) (ret := none) (by decide) rfl ?_
  intro p e s m args below meth c s₁ B hml hv
  obtain ⟨rfl, hsz, hP, hD0, hB⟩ := hv
  have hx := B.exec
  have hb := B.bytes
  have hr := B.returns
  have hts := atoms_spec (ws := wsX1_init) B.pre
  have hown : s.vm.findClass RX1 = some m.cls := findClass_of_methodNamed B.named
  have hlocks := B.notSynchronized
  have hin : meth.name = "<init>" := (name_of_methodNamed B.named B.method).1
  have hK := hB.1
  have hN := hB.2
  subst hsz
  have hD := hD0.self (sz := s.heap.size)
  have hA : ∀ q : Nat, s.heap.size ≤ q → va_A (iX1 h0) s.heap.size q := fun q h => Or.inr h
  generalize va_A (iX1 h0) s.heap.size = A at hD hA ⊢
  have hS : va_S A s.heap s.heap [] := va_S.rf
  have hl := lv_entry ([.ref h0]) (n := 1) (Nat.le_of_ble_eq_true rfl)
  rw [lg_entry_eq]
  generalize (lg_sl ([.ref h0]) ++ List.replicate (1 - (lg_sl ([.ref h0])).length) Slot.unset).toArray = ls at hl ⊢
  have hl : lv_has ls 1 [(0, .ref h0)] := hl
  refine lv_aload_n hx hb dX1_init_0 rfl (lv_at hl 0 rfl) ?_
  refine W.objInit hx hb hown (hts (.methodLink RX1 3 objectInit) (List.mem_of_getElem? (i := 1) rfl)) (hts (.instanceMethod objectInit) (List.mem_of_getElem? (i := 2) rfl)) (hts _ (List.mem_of_getElem? (i := 3) rfl)) rfl (by rw [hml]; exact hl.1) rfl dX1_init_1 (Nat.le_of_ble_eq_true rfl) (Nat.le_of_ble_eq_true rfl) ?_
  refine W.eq (g2 := F0 m 4 ls []) rfl ?_
  refine lv_aload_n hx hb dX1_init_4 rfl (lv_at hl 0 rfl) ?_
  refine va_new (ci := 0) (fs := [.null, .null, .int 0, .long 0, .long 0]) (C := RX0) (T := TX0) (N := 5) hx hb hts (fun w h => List.mem_cons_of_mem _ (List.mem_append_left _ (List.mem_append_left _ (List.mem_append_right _ h)))) tyX0 tyX0_ok hown (hts (.classLink RX1 9 RX0) (List.mem_of_getElem? (i := 4) rfl)) (hts (.instantiable RX0 5) (List.mem_of_getElem? (i := 5) rfl)) (hts (.initialized RX0) (List.mem_of_getElem? (i := 6) rfl)) hK hP hD hS hA rfl (fun j hj => by rcases (show j = 0 ∨ j = 1 ∨ j = 2 ∨ j = 3 ∨ j = 4 by omega) with rfl | rfl | rfl | rfl | rfl <;> rfl) (Nat.le_of_ble_eq_true rfl) (Nat.le_of_ble_eq_true rfl) dX1_init_5 (fun q5 H hP hD hS => ?_)
  have hP : va_P D vwCl [(h0, .inr (1, [.int 0, .long 0, .long 0, .long 0, .int 0, .int 0, .null, .null])), (q5, .inr (0, [.null, .null, .int 0, .long 0, .long 0]))] H := hP
  have hD : va_D A [(h0, .inr (1, [.int 0, .long 0, .long 0, .long 0, .int 0, .int 0, .null, .null])), (q5, .inr (0, [.null, .null, .int 0, .long 0, .long 0]))] := hD
  refine W.widen (k := 1) (n := 5) (Nat.le_of_ble_eq_true rfl) (Nat.le_of_ble_eq_true rfl) ?_
  refine lv_dup hx hb dX1_init_8 rfl ?_
  have hPc := hP.sub (ws' := [(q5, .inr (0, [.null, .null, .int 0, .long 0, .long 0]))]) [1] rfl
  have hDc := hD.sub (ws' := [(q5, .inr (0, [.null, .null, .int 0, .long 0, .long 0]))]) [1] (by decide) rfl
  have hFc := va_free (wc := [(q5, .inr (0, [.null, .null, .int 0, .long 0, .long 0]))]) hD hS hA [1] rfl
  refine va_callv (va_runIN (As := []) (rest := [.ref q5, .ref h0]) ⟨hx, hb, hml, hown, hts⟩ (ctX0_init l D cy q5 H.size) ⟨va_cnB 0 hts gX1_init_X0_init_n11 rfl rfl rfl (nwX1_11 hN) (hts (.initialized RX0) (List.mem_of_getElem? (i := 6) rfl)) (by decide +kernel) ⟨Nat.le_of_ble_eq_true rfl, Nat.le_of_ble_eq_true rfl⟩, rfl, (hts (.instanceMethod yX0_init) (List.mem_of_getElem? (i := 12) rfl))⟩ (preS_wr [.ref q5] hPc hDc hB) rfl rfl hl.1 rfl (lv_room (Nat.le_of_ble_eq_true rfl)) dX1_init_9 ⟨Nat.le_of_ble_eq_true rfl, Nat.le_of_ble_eq_true rfl⟩) hS (fun q _ h => hFc q h) hFc (fun u t H1 locs ht hvm h5 hB1 hz1 hk1 hS => ?_)
  obtain ⟨v9_0, v9_1⟩ := u
  obtain ⟨hP1, hD1⟩ := hB1
  rw [ht] at hP1
  obtain ⟨hP, hD⟩ := va_join (wr := [(h0, .inr (1, [.int 0, .long 0, .long 0, .long 0, .int 0, .int 0, .null, .null]))]) (w1 := [(q5, .inr (0, [.ref v9_0, .ref v9_1, .int 0, .long 0, .long 0])), (v9_0, .inl (cy 1, 9, .inr (.inl (fun _ => 0)))), (v9_1, .inl (cy 0, 9, .inl (fun _ => 0)))]) hP hD [1] [0] rfl rfl (by decide) (by decide) hk1 hFc hP1 hD1
  generalize H1 = H at hP hS ⊢
  have hP : va_P D vwCl [(h0, .inr (1, [.int 0, .long 0, .long 0, .long 0, .int 0, .int 0, .null, .null])), (q5, .inr (0, [.ref v9_0, .ref v9_1, .int 0, .long 0, .long 0])), (v9_0, .inl (cy 1, 9, .inr (.inl (fun _ => 0)))), (v9_1, .inl (cy 0, 9, .inl (fun _ => 0)))] H := hP
  have hD : va_D A [(h0, .inr (1, [.int 0, .long 0, .long 0, .long 0, .int 0, .int 0, .null, .null])), (q5, .inr (0, [.ref v9_0, .ref v9_1, .int 0, .long 0, .long 0])), (v9_0, .inl (cy 1, 9, .inr (.inl (fun _ => 0)))), (v9_1, .inl (cy 0, 9, .inl (fun _ => 0)))] := hD
  refine va_putF (D := D) (ci := 1) (v := .ref q5) (ty := .object "SumForms$Factors") (C := RX1) (T := TX1) (N := 8) hx hb hts (fun w h => List.mem_cons_of_mem _ (List.mem_append_left _ (List.mem_append_right _ h))) tyX1 tyX1_ok nmX1 hown hK hP hD hS 0 rfl rfl 6 (by decide) (hts (.fieldLink RX1 12 "SumForms$Form" "factoring" "LSumForms$Factors;") (List.mem_of_getElem? (i := 7) rfl)) (fun _ h9 => h9) rfl hin rfl (by decide +kernel) rfl rfl (Nat.le_of_ble_eq_true rfl) dX1_init_12 (fun H locs hP hD hS => ?_)
  have hP : va_P D vwCl [(h0, .inr (1, [.int 0, .long 0, .long 0, .long 0, .int 0, .int 0, .ref q5, .null])), (q5, .inr (0, [.ref v9_0, .ref v9_1, .int 0, .long 0, .long 0])), (v9_0, .inl (cy 1, 9, .inr (.inl (fun _ => 0)))), (v9_1, .inl (cy 0, 9, .inl (fun _ => 0)))] H := hP
  have hD : va_D A [(h0, .inr (1, [.int 0, .long 0, .long 0, .long 0, .int 0, .int 0, .ref q5, .null])), (q5, .inr (0, [.ref v9_0, .ref v9_1, .int 0, .long 0, .long 0])), (v9_0, .inl (cy 1, 9, .inr (.inl (fun _ => 0)))), (v9_1, .inl (cy 0, 9, .inl (fun _ => 0)))] := hD
  refine lv_aload_n hx hb dX1_init_15 rfl (lv_at hl 0 rfl) ?_
  refine va_new (ci := 3) (fs := [.int 0, .int 0, .int 0, .long 0]) (C := RX4) (T := TX4) (N := 4) hx hb hts (fun w h => List.mem_cons_of_mem _ (List.mem_append_right _ h)) tyX4 tyX4_ok hown (hts (.classLink RX1 18 RX4) (List.mem_of_getElem? (i := 8) rfl)) (hts (.instantiable RX4 4) (List.mem_of_getElem? (i := 9) rfl)) (hts (.initialized RX4) (List.mem_of_getElem? (i := 10) rfl)) hK hP hD hS hA rfl (fun j hj => by rcases (show j = 0 ∨ j = 1 ∨ j = 2 ∨ j = 3 by omega) with rfl | rfl | rfl | rfl <;> rfl) (Nat.le_of_ble_eq_true rfl) (Nat.le_of_ble_eq_true rfl) dX1_init_16 (fun q16 H hP hD hS => ?_)
  have hP : va_P D vwCl [(h0, .inr (1, [.int 0, .long 0, .long 0, .long 0, .int 0, .int 0, .ref q5, .null])), (q5, .inr (0, [.ref v9_0, .ref v9_1, .int 0, .long 0, .long 0])), (v9_0, .inl (cy 1, 9, .inr (.inl (fun _ => 0)))), (v9_1, .inl (cy 0, 9, .inl (fun _ => 0))), (q16, .inr (3, [.int 0, .int 0, .int 0, .long 0]))] H := hP
  have hD : va_D A [(h0, .inr (1, [.int 0, .long 0, .long 0, .long 0, .int 0, .int 0, .ref q5, .null])), (q5, .inr (0, [.ref v9_0, .ref v9_1, .int 0, .long 0, .long 0])), (v9_0, .inl (cy 1, 9, .inr (.inl (fun _ => 0)))), (v9_1, .inl (cy 0, 9, .inl (fun _ => 0))), (q16, .inr (3, [.int 0, .int 0, .int 0, .long 0]))] := hD
  refine W.widen (k := 4) (n := 27) (Nat.le_of_ble_eq_true rfl) (Nat.le_of_ble_eq_true rfl) ?_
  refine lv_dup hx hb dX1_init_19 rfl ?_
  have hPc := hP.sub (ws' := [(q16, .inr (3, [.int 0, .int 0, .int 0, .long 0]))]) [4] rfl
  have hDc := hD.sub (ws' := [(q16, .inr (3, [.int 0, .int 0, .int 0, .long 0]))]) [4] (by decide) rfl
  have hFc := va_free (wc := [(q16, .inr (3, [.int 0, .int 0, .int 0, .long 0]))]) hD hS hA [4] rfl
  refine va_callv (va_runIN (As := []) (rest := [.ref q16, .ref h0]) ⟨hx, hb, hml, hown, hts⟩ (ctX4_init l D cy q16 H.size) ⟨va_cnB 0 hts gX1_init_X4_init_n20 rfl rfl rfl (nwX1_20 hN) (hts (.initialized RX4) (List.mem_of_getElem? (i := 10) rfl)) (by decide +kernel) ⟨Nat.le_of_ble_eq_true rfl, Nat.le_of_ble_eq_true rfl⟩, rfl, (hts (.instanceMethod yX4_init) (List.mem_of_getElem? (i := 22) rfl))⟩ (preS_wr [.ref q16] hPc hDc hB) rfl rfl hl.1 rfl (lv_room (Nat.le_of_ble_eq_true rfl)) dX1_init_20 ⟨Nat.le_of_ble_eq_true rfl, Nat.le_of_ble_eq_true rfl⟩) hS (fun q _ h => hFc q h) hFc (fun u t H1 locs ht hvm h5 hB1 hz1 hk1 hS => ?_)
  obtain ⟨hP1, hD1⟩ := hB1
  rw [ht] at hP1
  obtain ⟨hP, hD⟩ := va_join (wr := [(h0, .inr (1, [.int 0, .long 0, .long 0, .long 0, .int 0, .int 0, .ref q5, .null])), (q5, .inr (0, [.ref v9_0, .ref v9_1, .int 0, .long 0, .long 0])), (v9_0, .inl (cy 1, 9, .inr (.inl (fun _ => 0)))), (v9_1, .inl (cy 0, 9, .inl (fun _ => 0)))]) (w1 := [(q16, .inr (3, [.int 201, .int 201, .int 201, .long 0]))]) hP hD [4] [0, 1, 2, 3] rfl rfl (by decide) (by decide) hk1 hFc hP1 hD1
  generalize H1 = H at hP hS ⊢
  have hP : va_P D vwCl [(h0, .inr (1, [.int 0, .long 0, .long 0, .long 0, .int 0, .int 0, .ref q5, .null])), (q5, .inr (0, [.ref v9_0, .ref v9_1, .int 0, .long 0, .long 0])), (v9_0, .inl (cy 1, 9, .inr (.inl (fun _ => 0)))), (v9_1, .inl (cy 0, 9, .inl (fun _ => 0))), (q16, .inr (3, [.int 201, .int 201, .int 201, .long 0]))] H := hP
  have hD : va_D A [(h0, .inr (1, [.int 0, .long 0, .long 0, .long 0, .int 0, .int 0, .ref q5, .null])), (q5, .inr (0, [.ref v9_0, .ref v9_1, .int 0, .long 0, .long 0])), (v9_0, .inl (cy 1, 9, .inr (.inl (fun _ => 0)))), (v9_1, .inl (cy 0, 9, .inl (fun _ => 0))), (q16, .inr (3, [.int 201, .int 201, .int 201, .long 0]))] := hD
  refine va_putF (D := D) (ci := 1) (v := .ref q16) (ty := .object "SumForms$Unseen") (C := RX1) (T := TX1) (N := 8) hx hb hts (fun w h => List.mem_cons_of_mem _ (List.mem_append_left _ (List.mem_append_right _ h))) tyX1 tyX1_ok nmX1 hown hK hP hD hS 0 rfl rfl 7 (by decide) (hts (.fieldLink RX1 21 "SumForms$Form" "unseen" "LSumForms$Unseen;") (List.mem_of_getElem? (i := 11) rfl)) (fun _ h9 => h9) rfl hin rfl (by decide +kernel) rfl rfl (Nat.le_of_ble_eq_true rfl) dX1_init_23 (fun H locs hP hD hS => ?_)
  have hP : va_P D vwCl [(h0, .inr (1, [.int 0, .long 0, .long 0, .long 0, .int 0, .int 0, .ref q5, .ref q16])), (q5, .inr (0, [.ref v9_0, .ref v9_1, .int 0, .long 0, .long 0])), (v9_0, .inl (cy 1, 9, .inr (.inl (fun _ => 0)))), (v9_1, .inl (cy 0, 9, .inl (fun _ => 0))), (q16, .inr (3, [.int 201, .int 201, .int 201, .long 0]))] H := hP
  have hD : va_D A [(h0, .inr (1, [.int 0, .long 0, .long 0, .long 0, .int 0, .int 0, .ref q5, .ref q16])), (q5, .inr (0, [.ref v9_0, .ref v9_1, .int 0, .long 0, .long 0])), (v9_0, .inl (cy 1, 9, .inr (.inl (fun _ => 0)))), (v9_1, .inl (cy 0, 9, .inl (fun _ => 0))), (q16, .inr (3, [.int 201, .int 201, .int 201, .long 0]))] := hD
  exact W.vret hx hb hr (fun t ht hW => ⟨⟨(q5, v9_0, v9_1, q16), rfl, trivial, by rw [ht]; exact hP, hD⟩, hS.F ht⟩) hS.2.2 dX1_init_26

abbrev rX5_init : Room := { frames := 3, cells := 45, slots := 1603, locals := 52 }
abbrev iX5 (h0 : Nat) : va_W := [(h0, .inr (4, [.null, .int 0, .null, .int 0, .null]))]
/-- the class object's own cells -/
abbrev bX5 (cy : Nat → ClassId) (h0 q8 q21 q33 v0 v1 : Nat) (sT : Nat → Int32) (sN : Int32) (sQ : Nat → Option Nat) (sC : Int32) (eR eS : Nat → Int64) (eN : Int32) : va_W := [(h0, .inr (4, [.ref q8, .int sN, .ref q21, .int sC, .ref q33])), (q8, .inl (cy 0, 600, .inl sT)), (q21, .inl (cy 3, 8, .inr (.inr (.inr (.inr sQ))))), (q33, .inr (2, [.ref v0, .ref v1, .int eN])), (v0, .inl (cy 1, 200, .inr (.inl eR))), (v1, .inl (cy 1, 512, .inr (.inl eS)))]
abbrev fd0 : FCo := ((0, 0, 0, 0, 0, 0), (0, 0, 0, (fun _ => 0), (fun _ => 0)), (201, 201, 201, 0))
abbrev oX5 (cy : Nat → ClassId) (h0 : Nat) (u : (Nat × Nat × Nat × Nat × Nat) × (Nat → FAd) × (Nat → Option Nat)) : va_W := bX5 cy h0 u.1.1 u.1.2.1 u.1.2.2.1 u.1.2.2.2.1 u.1.2.2.2.2 (fun _ => 0) 0 u.2.2 0 (fun _ => 0) (fun _ => 0) 0 ++ fl cy u.2.1 (fun _ => fd0) 8

set_option maxHeartbeats 4000000 in
set_option maxRecDepth 100000 in
theorem lpX5_init {p : Program} {l : Launch} {e : Env} {s : State} {m : MethodId} {args : Array Value} {below : List Frame} {meth : Method} {c : Code} {D : va_G} {cy : Nat → ClassId} {A : Nat → Prop} {Q : State → Prop} {h0 q8 q21 q33 v0 v1 : Nat} (hx : p.tables.exec = Jvm.exec) (hb : c.code = cX5_init) (hml : c.maxLocals = 2) (hown : s.vm.findClass RX5 = some m.cls) (hts : ∀ w ∈ wsX5_init, w.before args s = true) (hB : Bg D cy s) (hA : ∀ q, s.heap.size ≤ q → A q) (kk : ∀ (ad : Nat → FAd) (sQ : Nat → Option Nat) (H : Heap) (locs : List Loc) (ls : Array Slot), (∀ j, j < 8 → sQ j = some (ad j).1) → va_P D vwCl (bX5 cy h0 q8 q21 q33 v0 v1 (fun _ => 0) 0 sQ 0 (fun _ => 0) (fun _ => 0) 0 ++ fl cy ad (fun _ => fd0) 8) H → va_D A (bX5 cy h0 q8 q21 q33 v0 v1 (fun _ => 0) 0 sQ 0 (fun _ => 0) (fun _ => 0) 0 ++ fl cy ad (fun _ => fd0) 8) → va_S A s.heap H locs → W p l e rX5_init s m args below meth c H locs 45 1603 Q (F0 m 70 ls [])) : ∀ (k i : Nat) (ad : Nat → FAd) (sQ : Nat → Option Nat) (H : Heap) (locs : List Loc) (ls : Array Slot), i + k = 8 → (∀ j, j < i → sQ j = some (ad j).1) → va_P D vwCl (bX5 cy h0 q8 q21 q33 v0 v1 (fun _ => 0) 0 sQ 0 (fun _ => 0) (fun _ => 0) 0 ++ fl cy ad (fun _ => fd0) i) H → va_D A (bX5 cy h0 q8 q21 q33 v0 v1 (fun _ => 0) 0 sQ 0 (fun _ => 0) (fun _ => 0) 0 ++ fl cy ad (fun _ => fd0) i) → va_S A s.heap H locs → lv_has ls 2 [(0, .ref h0), (1, .int (nI i))] → W p l e rX5_init s m args below meth c H locs (5 + 5 * i) (1323 + 35 * i) Q (F0 m 45 ls []) := by
  have hK := hB.1
  have hN := hB.2
  intro k
  induction k with
  | zero =>
    intro i ad sQ H locs ls hi hq hP hD hS hl
    have : i = 8 := by omega
    subst this
    refine lv_iload_n hx hb dX5_init_45 rfl (lv_at hl 1 rfl) ?_
    refine lv_bipush (v := (8 : Int32)) hx hb dX5_init_46 (by decide) ?_
    refine lv_icmp_ge (tgt := 70) hx hb dX5_init_48 (by decide) (fun c_3 => ?_) (fun c_3 => absurd (show (8 : Int32) ≤ nI 8 by decide) c_3)
    exact kk ad sQ H locs ls hq hP hD hS
  | succ k ih =>
    intro i ad sQ H locs ls hi hq hP hD hS hl
    refine lv_iload_n hx hb dX5_init_45 rfl (lv_at hl 1 rfl) ?_
    refine lv_bipush (v := (8 : Int32)) hx hb dX5_init_46 (by decide) ?_
    refine lv_icmp_ge (tgt := 70) hx hb dX5_init_48 (by decide) (fun c_3 => absurd c_3 (show ¬ (8 : Int32) ≤ nI i from nI_ge (b := 8) (by omega) (by decide))) (fun c_3 => ?_)
    refine lv_aload_n hx hb dX5_init_51 rfl (lv_at hl 0 rfl) ?_
    refine va_get (D := D) (ci := 4) (v := .ref q21) (C := RX5) (T := TX5) (N := 5) hx hb hts (fun w h => List.mem_cons_of_mem _ (List.mem_append_left _ (List.mem_append_left _ (List.mem_append_left _ (List.mem_append_left _ (List.mem_append_right _ h)))))) hown hK hP 0 rfl rfl 2 (by decide) (hts (.fieldLink RX5 19 "SumForms" "forms" "[LSumForms$Form;") (List.mem_of_getElem? (i := 8) rfl)) (fun _ h9 => h9) rfl dX5_init_52 ?_
    refine lv_iload_n hx hb dX5_init_55 rfl (lv_at hl 1 rfl) ?_
    refine va_new (ci := 1) (fs := [.int 0, .long 0, .long 0, .long 0, .int 0, .int 0, .null, .null]) (C := RX1) (T := TX1) (N := 8) hx hb hts (fun w h => List.mem_cons_of_mem _ (List.mem_append_left _ (List.mem_append_left _ (List.mem_append_right _ h)))) tyX1 tyX1_ok hown (hts (.classLink RX5 17 RX1) (List.mem_of_getElem? (i := 7) rfl)) (hts (.instantiable RX1 8) (List.mem_of_getElem? (i := 14) rfl)) (hts (.initialized RX1) (List.mem_of_getElem? (i := 15) rfl)) hK hP hD hS hA rfl (fun j hj => by rcases (show j = 0 ∨ j = 1 ∨ j = 2 ∨ j = 3 ∨ j = 4 ∨ j = 5 ∨ j = 6 ∨ j = 7 by omega) with rfl | rfl | rfl | rfl | rfl | rfl | rfl | rfl <;> rfl) (show 5 + 5 * i + 1 ≤ 45 by omega) (show 1323 + 35 * i + 8 ≤ 1603 by omega) dX5_init_56 (fun q H hP hD hS => ?_)
    have hP : va_P D vwCl (iX1 q ++ (bX5 cy h0 q8 q21 q33 v0 v1 (fun _ => 0) 0 sQ 0 (fun _ => 0) (fun _ => 0) 0 ++ fl cy ad (fun _ => fd0) i)) H := hP.perm List.perm_append_comm
    have hD : va_D A (iX1 q ++ (bX5 cy h0 q8 q21 q33 v0 v1 (fun _ => 0) 0 sQ 0 (fun _ => 0) (fun _ => 0) 0 ++ fl cy ad (fun _ => fd0) i)) := hD.perm List.perm_append_comm
    refine lv_dup hx hb dX5_init_59 rfl ?_
    refine ca_v (S := Nat × Nat × Nat × Nat) (B := fun u => oX1 cy q u.1 u.2.1 u.2.2.1 u.2.2.2) (mc := 4) (ms := 27) (va_runIN (As := []) (rest := [.ref q, .int (nI i), .ref q21]) ⟨hx, hb, hml, hown, hts⟩ (ctX1_init l D cy q H.size) ⟨va_cnB 0 hts gX5_init_X1_init_n33 rfl rfl rfl (nwX5_33 hN) (hts (.initialized RX1) (List.mem_of_getElem? (i := 15) rfl)) (by decide +kernel) ⟨Nat.le_of_ble_eq_true rfl, Nat.le_of_ble_eq_true rfl⟩, rfl, (hts (.instanceMethod yX1_init) (List.mem_of_getElem? (i := 23) rfl))⟩ (preS_wr [.ref q] hP.left hD.left hB) rfl rfl hl.1 rfl (lv_room (Nat.le_of_ble_eq_true rfl)) dX5_init_60 ⟨show 5 + 5 * i + 1 + 4 ≤ 45 by omega, show 1323 + 35 * i + 8 + 27 ≤ 1603 by omega⟩) hP hD hS hA (fun u H locs hP hD hS => ?_)
    obtain ⟨w5, w6, w7, w8⟩ := u
    have hin : vp_in (nI i) 8 := vp_in_nI (by omega) (by decide)
    refine va_astq (D := D) hx hb hK hP hD hS 7 3 0 1 rfl rfl rfl rfl hin dX5_init_63 (fun H locs hP hD hS => ?_)
    rw [nI_clamp (show i < 2 ^ 31 by omega)] at hP hD
    have hP : va_P D vwCl (oX1 cy q w5 w6 w7 w8 ++ (bX5 cy h0 q8 q21 q33 v0 v1 (fun _ => 0) 0 (va_up sQ i (some q)) 0 (fun _ => 0) (fun _ => 0) 0 ++ fl cy ad (fun _ => fd0) i)) H := hP
    have hD : va_D A (oX1 cy q w5 w6 w7 w8 ++ (bX5 cy h0 q8 q21 q33 v0 v1 (fun _ => 0) 0 (va_up sQ i (some q)) 0 (fun _ => 0) (fun _ => 0) 0 ++ fl cy ad (fun _ => fd0) i)) := hD
    have hfl : fl cy (fun j => if j = i then (q, w5, w6, w7, w8) else ad j) (fun _ => fd0) (i + 1) = fl cy ad (fun _ => fd0) i ++ oX1 cy q w5 w6 w7 w8 := by
      show fl cy _ _ i ++ fcs cy (if i = i then _ else _) _ = _
      rw [if_pos rfl, fl_congr i (ad := ad) (fun j hj => if_neg (by omega))]
      rfl
    have hpm : (oX1 cy q w5 w6 w7 w8 ++ (bX5 cy h0 q8 q21 q33 v0 v1 (fun _ => 0) 0 (va_up sQ i (some q)) 0 (fun _ => 0) (fun _ => 0) 0 ++ fl cy ad (fun _ => fd0) i)).Perm (bX5 cy h0 q8 q21 q33 v0 v1 (fun _ => 0) 0 (va_up sQ i (some q)) 0 (fun _ => 0) (fun _ => 0) 0 ++ fl cy (fun j => if j = i then (q, w5, w6, w7, w8) else ad j) (fun _ => fd0) (i + 1)) := by
      rw [hfl, ← List.append_assoc (bX5 _ _ _ _ _ _ _ _ _ _ _ _ _ _)]
      exact List.perm_append_comm
    refine lv_iinc (v := (nI i + (1 : Int32))) (lv' := [(1, .int (nI i + (1 : Int32))), (0, .ref h0)]) hx hb dX5_init_64 hl (k := 1) rfl rfl (by decide) rfl (fun ls hl => ?_)
    rw [nI_1] at hl
    refine lv_goto (tgt := 45) hx hb dX5_init_67 (by decide) ?_
    rw [show 5 + 5 * i + 1 + 4 = 5 + 5 * (i + 1) by omega, show 1323 + 35 * i + 8 + 27 = 1323 + 35 * (i + 1) by omega]
    refine ih (i + 1) _ _ H locs ls (by omega) (fun j hj => ?_) (hP.perm hpm) (hD.perm hpm) hS (lv_sub hl [1, 0] rfl)
    show (if j = i then some q else sQ j) = some (if j = i then (q, w5, w6, w7, w8) else ad j).1
    by_cases hji : j = i
    · rw [if_pos hji, if_pos hji]
    · rw [if_neg hji, if_neg hji]; exact hq j (by omega)

set_option maxHeartbeats 4000000 in
set_option maxRecDepth 100000 in
theorem ctX5_init (l : Launch) (D : va_G) (cy : Nat → ClassId) (h0 sz : Nat) : Met l yX5_init wsX5_init rX5_init (va_Pc [.ref h0] (fun U => Wr D cy (iX5 h0) sz U ∧ va_AO "SumForms$Form" U)) (va_Qv (S := (Nat × Nat × Nat × Nat × Nat) × (Nat → FAd) × (Nat → Option Nat)) (fun u => ∀ j, j < 8 → u.2.2 j = some (u.2.1 j).1) (fun u => Qw D (va_A (iX5 h0) sz) (oX5 cy h0 u)) (va_A (iX5 h0) sz)) 45 1603 (va_A (iX5 h0) sz) := by
  refine Met.ofW (cc := cX5_init) (maxL := 2) (ret := none) (by decide) rfl ?_
  intro p e s m args below meth c s₁ B hml hv
  obtain ⟨rfl, ⟨hsz, hP, hD0, hB⟩, hAO⟩ := hv
  have hx := B.exec
  have hb := B.bytes
  have hr := B.returns
  have hts := atoms_spec (ws := wsX5_init) B.pre
  have hown : s.vm.findClass RX5 = some m.cls := findClass_of_methodNamed B.named
  have hlocks := B.notSynchronized
  have hin : meth.name = "<init>" := (name_of_methodNamed B.named B.method).1
  have hK := hB.1
  have hN := hB.2
  subst hsz
  have hD := hD0.self (sz := s.heap.size)
  have hA : ∀ q : Nat, s.heap.size ≤ q → va_A (iX5 h0) s.heap.size q := fun q h => Or.inr h
  generalize va_A (iX5 h0) s.heap.size = A at hD hA ⊢
  have hS : va_S A s.heap s.heap [] := va_S.rf
  have hl := lv_entry ([.ref h0]) (n := 2) (Nat.le_of_ble_eq_true rfl)
  rw [lg_entry_eq]
  generalize (lg_sl ([.ref h0]) ++ List.replicate (2 - (lg_sl ([.ref h0])).length) Slot.unset).toArray = ls at hl ⊢
  have hl : lv_has ls 2 [(0, .ref h0)] := hl
  refine lv_aload_n hx hb dX5_init_0 rfl (lv_at hl 0 rfl) ?_
  refine W.objInit hx hb hown (hts (.methodLink RX5 1 objectInit) (List.mem_of_getElem? (i := 1) rfl)) (hts (.instanceMethod objectInit) (List.mem_of_getElem? (i := 2) rfl)) (hts _ (List.mem_of_getElem? (i := 3) rfl)) rfl (by rw [hml]; exact hl.1) rfl dX5_init_1 (Nat.le_of_ble_eq_true rfl) (Nat.le_of_ble_eq_true rfl) ?_
  refine W.eq (g2 := F0 m 4 ls []) rfl ?_
  refine lv_aload_n hx hb dX5_init_4 rfl (lv_at hl 0 rfl) ?_
  refine lv_sipush (v := (600 : Int32)) hx hb dX5_init_5 (by decide) ?_
  refine va_newa (atype := .int) (N' := 600) (a0 := (600, .inl (fun _ => 0))) (ty := .int) (n := (600 : Int32)) hx hb (hts (.arrayClass .int) (List.mem_of_getElem? (i := 4) rfl)) rfl hK hP hD hS hA (fun _ => rfl) (by decide +kernel) (by decide +kernel) (by decide +kernel) (Nat.le_of_ble_eq_true rfl) (Nat.le_of_ble_eq_true rfl) dX5_init_8 (fun q8 cA H hK2 hP hD hS => ?_)
  obtain rfl := cyq hK2 0 rfl
  have hP : va_P D vwCl [(h0, .inr (4, [.null, .int 0, .null, .int 0, .null])), (q8, .inl (cy 0, 600, .inl (fun _ => 0)))] H := hP
  have hD : va_D A [(h0, .inr (4, [.null, .int 0, .null, .int 0, .null])), (q8, .inl (cy 0, 600, .inl (fun _ => 0)))] := hD
  refine W.widen (k := 1) (n := 600) (Nat.le_of_ble_eq_true rfl) (Nat.le_of_ble_eq_true rfl) ?_
  refine va_putF (D := D) (ci := 4) (v := .ref q8) (ty := .array .int) (C := RX5) (T := TX5) (N := 5) hx hb hts (fun w h => List.mem_cons_of_mem _ (List.mem_append_left _ (List.mem_append_left _ (List.mem_append_left _ (List.mem_append_left _ (List.mem_append_right _ h)))))) tyX5 tyX5_ok nmX5 hown hK hP hD hS 0 rfl rfl 0 (by decide) (hts (.fieldLink RX5 9 "SumForms" "text" "[I") (List.mem_of_getElem? (i := 5) rfl)) (fun _ h9 => h9) rfl hin rfl (by decide +kernel) rfl rfl (Nat.le_of_ble_eq_true rfl) dX5_init_10 (fun H locs hP hD hS => ?_)
  have hP : va_P D vwCl [(h0, .inr (4, [.ref q8, .int 0, .null, .int 0, .null])), (q8, .inl (cy 0, 600, .inl (fun _ => 0)))] H := hP
  have hD : va_D A [(h0, .inr (4, [.ref q8, .int 0, .null, .int 0, .null])), (q8, .inl (cy 0, 600, .inl (fun _ => 0)))] := hD
  refine lv_aload_n hx hb dX5_init_13 rfl (lv_at hl 0 rfl) ?_
  refine lv_iconst (v := (0 : Int32)) hx hb dX5_init_14 (by decide) ?_
  refine va_put (D := D) (ci := 4) (v := .int 0) (ty := .int) (C := RX5) (T := TX5) (N := 5) hx hb hts (fun w h => List.mem_cons_of_mem _ (List.mem_append_left _ (List.mem_append_left _ (List.mem_append_left _ (List.mem_append_left _ (List.mem_append_right _ h)))))) tyX5 tyX5_ok nmX5 hown hK hP hD hS 0 rfl rfl 1 (by decide) (hts (.fieldLink RX5 13 "SumForms" "octets" "I") (List.mem_of_getElem? (i := 6) rfl)) (fun _ h9 => h9) rfl (by decide +kernel) rfl rfl (Nat.le_of_ble_eq_true rfl) dX5_init_15 (fun H locs hP hD hS => ?_)
  have hP : va_P D vwCl [(h0, .inr (4, [.ref q8, .int 0, .null, .int 0, .null])), (q8, .inl (cy 0, 600, .inl (fun _ => 0)))] H := hP
  have hD : va_D A [(h0, .inr (4, [.ref q8, .int 0, .null, .int 0, .null])), (q8, .inl (cy 0, 600, .inl (fun _ => 0)))] := hD
  refine lv_aload_n hx hb dX5_init_18 rfl (lv_at hl 0 rfl) ?_
  refine lv_bipush (v := (8 : Int32)) hx hb dX5_init_19 (by decide) ?_
  refine va_newq (N' := 8) (n := (8 : Int32)) hx hb hown (hts (.classLink RX5 17 RX1) (List.mem_of_getElem? (i := 7) rfl)) hAO hK hP hD hS hA (by decide +kernel) (by decide +kernel) (by decide +kernel) (Nat.le_of_ble_eq_true rfl) (Nat.le_of_ble_eq_true rfl) dX5_init_21 (fun q21 cA H hK2 hP hD hS => ?_)
  obtain rfl := cyq hK2 3 rfl
  have hP : va_P D vwCl [(h0, .inr (4, [.ref q8, .int 0, .null, .int 0, .null])), (q8, .inl (cy 0, 600, .inl (fun _ => 0))), (q21, .inl (cy 3, 8, .inr (.inr (.inr (.inr (fun _ => none))))))] H := hP
  have hD : va_D A [(h0, .inr (4, [.ref q8, .int 0, .null, .int 0, .null])), (q8, .inl (cy 0, 600, .inl (fun _ => 0))), (q21, .inl (cy 3, 8, .inr (.inr (.inr (.inr (fun _ => none))))))] := hD
  refine W.widen (k := 2) (n := 608) (Nat.le_of_ble_eq_true rfl) (Nat.le_of_ble_eq_true rfl) ?_
  refine va_putF (D := D) (ci := 4) (v := .ref q21) (ty := .array (.object "SumForms$Form")) (C := RX5) (T := TX5) (N := 5) hx hb hts (fun w h => List.mem_cons_of_mem _ (List.mem_append_left _ (List.mem_append_left _ (List.mem_append_left _ (List.mem_append_left _ (List.mem_append_right _ h)))))) tyX5 tyX5_ok nmX5 hown hK hP hD hS 0 rfl rfl 2 (by decide) (hts (.fieldLink RX5 19 "SumForms" "forms" "[LSumForms$Form;") (List.mem_of_getElem? (i := 8) rfl)) (fun _ h9 => h9) rfl hin rfl (by decide +kernel) rfl rfl (Nat.le_of_ble_eq_true rfl) dX5_init_24 (fun H locs hP hD hS => ?_)
  have hP : va_P D vwCl [(h0, .inr (4, [.ref q8, .int 0, .ref q21, .int 0, .null])), (q8, .inl (cy 0, 600, .inl (fun _ => 0))), (q21, .inl (cy 3, 8, .inr (.inr (.inr (.inr (fun _ => none))))))] H := hP
  have hD : va_D A [(h0, .inr (4, [.ref q8, .int 0, .ref q21, .int 0, .null])), (q8, .inl (cy 0, 600, .inl (fun _ => 0))), (q21, .inl (cy 3, 8, .inr (.inr (.inr (.inr (fun _ => none))))))] := hD
  refine lv_aload_n hx hb dX5_init_27 rfl (lv_at hl 0 rfl) ?_
  refine lv_iconst (v := (0 : Int32)) hx hb dX5_init_28 (by decide) ?_
  refine va_put (D := D) (ci := 4) (v := .int 0) (ty := .int) (C := RX5) (T := TX5) (N := 5) hx hb hts (fun w h => List.mem_cons_of_mem _ (List.mem_append_left _ (List.mem_append_left _ (List.mem_append_left _ (List.mem_append_left _ (List.mem_append_right _ h)))))) tyX5 tyX5_ok nmX5 hown hK hP hD hS 0 rfl rfl 3 (by decide) (hts (.fieldLink RX5 23 "SumForms" "formCount" "I") (List.mem_of_getElem? (i := 9) rfl)) (fun _ h9 => h9) rfl (by decide +kernel) rfl rfl (Nat.le_of_ble_eq_true rfl) dX5_init_29 (fun H locs hP hD hS => ?_)
  have hP : va_P D vwCl [(h0, .inr (4, [.ref q8, .int 0, .ref q21, .int 0, .null])), (q8, .inl (cy 0, 600, .inl (fun _ => 0))), (q21, .inl (cy 3, 8, .inr (.inr (.inr (.inr (fun _ => none))))))] H := hP
  have hD : va_D A [(h0, .inr (4, [.ref q8, .int 0, .ref q21, .int 0, .null])), (q8, .inl (cy 0, 600, .inl (fun _ => 0))), (q21, .inl (cy 3, 8, .inr (.inr (.inr (.inr (fun _ => none))))))] := hD
  refine lv_aload_n hx hb dX5_init_32 rfl (lv_at hl 0 rfl) ?_
  refine va_new (ci := 2) (fs := [.null, .null, .int 0]) (C := RX3) (T := TX3) (N := 3) hx hb hts (fun w h => List.mem_cons_of_mem _ (List.mem_append_left _ (List.mem_append_left _ (List.mem_append_left _ (List.mem_append_right _ h))))) tyX3 tyX3_ok hown (hts (.classLink RX5 26 RX3) (List.mem_of_getElem? (i := 10) rfl)) (hts (.instantiable RX3 3) (List.mem_of_getElem? (i := 11) rfl)) (hts (.initialized RX3) (List.mem_of_getElem? (i := 12) rfl)) hK hP hD hS hA rfl (fun j hj => by rcases (show j = 0 ∨ j = 1 ∨ j = 2 by omega) with rfl | rfl | rfl <;> rfl) (Nat.le_of_ble_eq_true rfl) (Nat.le_of_ble_eq_true rfl) dX5_init_33 (fun q33 H hP hD hS => ?_)
  have hP : va_P D vwCl (iX3 q33 ++ [(h0, .inr (4, [.ref q8, .int 0, .ref q21, .int 0, .null])), (q8, .inl (cy 0, 600, .inl (fun _ => 0))), (q21, .inl (cy 3, 8, .inr (.inr (.inr (.inr (fun _ => none))))))]) H := hP.perm List.perm_append_comm
  have hD : va_D A (iX3 q33 ++ [(h0, .inr (4, [.ref q8, .int 0, .ref q21, .int 0, .null])), (q8, .inl (cy 0, 600, .inl (fun _ => 0))), (q21, .inl (cy 3, 8, .inr (.inr (.inr (.inr (fun _ => none))))))]) := hD.perm List.perm_append_comm
  refine W.widen (k := 3) (n := 611) (Nat.le_of_ble_eq_true rfl) (Nat.le_of_ble_eq_true rfl) ?_
  refine lv_dup hx hb dX5_init_36 rfl ?_
  refine ca_v (S := Nat × Nat) (B := fun u => oX3 cy q33 u.1 u.2) (mc := 2) (ms := 712) (va_runIN (As := []) (rest := [.ref q33, .ref h0]) ⟨hx, hb, hml, hown, hts⟩ (ctX3_init l D cy q33 H.size) ⟨va_cnB 0 hts gX5_init_X3_init_n28 rfl rfl rfl (nwX5_28 hN) (hts (.initialized RX3) (List.mem_of_getElem? (i := 12) rfl)) (by decide +kernel) ⟨Nat.le_of_ble_eq_true rfl, Nat.le_of_ble_eq_true rfl⟩, rfl, (hts (.instanceMethod yX3_init) (List.mem_of_getElem? (i := 16) rfl))⟩ (preS_wr [.ref q33] hP.left hD.left hB) rfl rfl hl.1 rfl (lv_room (Nat.le_of_ble_eq_true rfl)) dX5_init_37 ⟨Nat.le_of_ble_eq_true rfl, Nat.le_of_ble_eq_true rfl⟩) hP hD hS hA (fun u H locs hP hD hS => ?_)
  obtain ⟨v0, v1⟩ := u
  have hP : va_P D vwCl [(h0, .inr (4, [.ref q8, .int 0, .ref q21, .int 0, .null])), (q8, .inl (cy 0, 600, .inl (fun _ => 0))), (q21, .inl (cy 3, 8, .inr (.inr (.inr (.inr (fun _ => none)))))), (q33, .inr (2, [.ref v0, .ref v1, .int 0])), (v0, .inl (cy 1, 200, .inr (.inl (fun _ => 0)))), (v1, .inl (cy 1, 512, .inr (.inl (fun _ => 0))))] H := hP.perm List.perm_append_comm
  have hD : va_D A [(h0, .inr (4, [.ref q8, .int 0, .ref q21, .int 0, .null])), (q8, .inl (cy 0, 600, .inl (fun _ => 0))), (q21, .inl (cy 3, 8, .inr (.inr (.inr (.inr (fun _ => none)))))), (q33, .inr (2, [.ref v0, .ref v1, .int 0])), (v0, .inl (cy 1, 200, .inr (.inl (fun _ => 0)))), (v1, .inl (cy 1, 512, .inr (.inl (fun _ => 0))))] := hD.perm List.perm_append_comm
  refine va_putF (D := D) (ci := 4) (v := .ref q33) (ty := .object "SumForms$Remainders") (C := RX5) (T := TX5) (N := 5) hx hb hts (fun w h => List.mem_cons_of_mem _ (List.mem_append_left _ (List.mem_append_left _ (List.mem_append_left _ (List.mem_append_left _ (List.mem_append_right _ h)))))) tyX5 tyX5_ok nmX5 hown hK hP hD hS 0 rfl rfl 4 (by decide) (hts (.fieldLink RX5 29 "SumForms" "remainders" "LSumForms$Remainders;") (List.mem_of_getElem? (i := 13) rfl)) (fun _ h9 => h9) rfl hin rfl (by decide +kernel) rfl rfl (Nat.le_of_ble_eq_true rfl) dX5_init_40 (fun H locs hP hD hS => ?_)
  have hP : va_P D vwCl [(h0, .inr (4, [.ref q8, .int 0, .ref q21, .int 0, .ref q33])), (q8, .inl (cy 0, 600, .inl (fun _ => 0))), (q21, .inl (cy 3, 8, .inr (.inr (.inr (.inr (fun _ => none)))))), (q33, .inr (2, [.ref v0, .ref v1, .int 0])), (v0, .inl (cy 1, 200, .inr (.inl (fun _ => 0)))), (v1, .inl (cy 1, 512, .inr (.inl (fun _ => 0))))] H := hP
  have hD : va_D A [(h0, .inr (4, [.ref q8, .int 0, .ref q21, .int 0, .ref q33])), (q8, .inl (cy 0, 600, .inl (fun _ => 0))), (q21, .inl (cy 3, 8, .inr (.inr (.inr (.inr (fun _ => none)))))), (q33, .inr (2, [.ref v0, .ref v1, .int 0])), (v0, .inl (cy 1, 200, .inr (.inl (fun _ => 0)))), (v1, .inl (cy 1, 512, .inr (.inl (fun _ => 0))))] := hD
  refine lv_iconst (v := (0 : Int32)) hx hb dX5_init_43 (by decide) ?_
  refine lv_istore_n (lv' := [(1, .int (0 : Int32)), (0, .ref h0)]) hx hb dX5_init_44 rfl hl (by decide) rfl (fun ls hl => ?_)
  refine lpX5_init (D := D) (cy := cy) (A := A) (q8 := q8) (q21 := q21) (q33 := q33) (v0 := v0) (v1 := v1) hx hb hml hown hts hB hA (fun ad sQ H locs ls hq hP hD hS => ?_) 8 0 (fun _ => (0, 0, 0, 0, 0)) (fun _ => none) H locs ls rfl (fun j hj => by omega) (by rw [show fl cy (fun _ => (0, 0, 0, 0, 0)) (fun _ => fd0) 0 = [] from rfl, List.append_nil]; exact hP) (by rw [show fl cy (fun _ => (0, 0, 0, 0, 0)) (fun _ => fd0) 0 = [] from rfl, List.append_nil]; exact hD) hS (lv_sub hl [1, 0] rfl)
  exact W.vret hx hb hr (fun t ht hW => ⟨⟨((q8, q21, q33, v0, v1), ad, sQ), rfl, hq, by rw [ht]; exact hP, hD⟩, hS.F ht⟩) hS.2.2 dX5_init_70

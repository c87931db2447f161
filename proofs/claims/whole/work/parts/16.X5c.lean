/-! SumForms.octet(I)I -/
abbrev rX5_octet : Room := { frames := 0, cells := 0, slots := 0, locals := 0 }
theorem mX5_octet_0 : Cond.fieldLink RX5 13 "SumForms" "octets" "I" ∈ wsX5_octet := by decide +kernel
theorem mX5_octet_1 : Cond.fieldLink RX5 9 "SumForms" "text" "[I" ∈ wsX5_octet := by decide +kernel
theorem inX5_octet_X5 : ∀ w ∈ u_ws RX5 TX5 5, w ∈ wsX5_octet := by decide +kernel
abbrev GX5_octet (p : Program) (l : Launch) (e : Env) (s : State) (m : MethodId) (args : Array Value) (below : List Frame) (meth : Method) (c : Code) (r0 : Int32) (fr : JFrame) : Prop := W p l e (headSpec wsX5_octet rX5_octet).room s m args below meth c s.heap [] 0 0 (MQ below (vp_Si (fun r => r = r0)) args s 0 0 (fun _ => False)) fr
def fX5_octet (N : Nat) (sN : Int32) (sT : Nat → Int32) (x1 : Int32) : Option (Int32) := (if x1 < 0 then (some (-1 : Int32)) else (if x1 < sN then (if OOB x1 600 then none else (some (sT x1.toNatClampNeg))) else (some (-1 : Int32))))
set_option maxHeartbeats 4000000 in
set_option maxRecDepth 100000 in
theorem ctX5_octet (l : Launch) (D : va_G) (cy : Nat → ClassId) (N : Nat) (hsf hst hsq hre : Nat) (sN : Int32) (sC : Int32) (sT : Nat → Int32) (x1 : Int32) (r0 : Int32) (hf : fX5_octet N sN sT x1 = some r0) : Met l yX5_octet wsX5_octet rX5_octet (va_Pc [.ref hsf, .int x1] (Rd D cy [(hsf, .inr (4, [.ref hst, .int sN, .ref hsq, .int sC, .ref hre])), (hst, .inl (cy 0, 600, .inl sT))])) (vp_Si (fun r => r = r0)) 0 0 (fun _ => False) := by
  refine Met.ofW (cc := cX5_octet) (maxL := 2) (ret := (some .int)) (by decide) rfl ?_
  intro p e s m args below meth c s₁ B hml hv
  obtain ⟨rfl, hP, hB⟩ := hv
  have hx := B.exec
  have hb := B.bytes
  have hr := B.returns
  have hts := atoms_spec (ws := wsX5_octet) B.pre
  have hown : s.vm.findClass RX5 = some m.cls := findClass_of_methodNamed B.named
  have hlocks := B.notSynchronized
  have hK := hB.1
  have hN := hB.2
  have hl := lv_entry ([.ref hsf, .int x1]) (n := 2) (Nat.le_of_ble_eq_true rfl)
  rw [lg_entry_eq]
  generalize (lg_sl ([.ref hsf, .int x1]) ++ List.replicate (2 - (lg_sl ([.ref hsf, .int x1])).length) Slot.unset).toArray = ls at hl ⊢
  have hl : lv_has ls 2 [(0, .ref hsf), (1, .int x1)] := hl
  have E0 : En p m c cX5_octet 2 s ([.ref hsf, .int x1] : List Value).toArray wsX5_octet RX5 meth (some .int) D cy := ⟨⟨hx, hb, hml, hown, hts⟩, hr, hlocks, hB⟩
  unfold fX5_octet at hf
  refine lv_iload_n hx hb dX5_octet_0 rfl (lv_at hl 1 rfl) ?_
  refine lv_if_lt (tgt := 12) hx hb dX5_octet_1 (by decide) (fun c_1 => ?_) (fun c_1 => ?_)
  · have hf := ite_t hf c_1
    refine lv_iconst (v := (-1 : Int32)) hx hb dX5_octet_12 (by decide) ?_
    exact W.iret (v := (-1 : Int32)) hx hb hr (fun t ht hW => ⟨_, rfl, Option.some.inj hf, ht⟩) (fun _ h => absurd h List.not_mem_nil) dX5_octet_13
  · have hf := ite_f hf c_1
    refine lv_iload_n hx hb dX5_octet_4 rfl (lv_at hl 1 rfl) ?_
    refine lv_aload_n hx hb dX5_octet_5 rfl (lv_at hl 0 rfl) ?_
    refine va_get (D := D) (ci := 4) (v := .int sN) (C := RX5) (T := TX5) (N := 5) hx hb hts inX5_octet_X5 hown hK hP 0 rfl rfl 1 (by decide) (hts _ mX5_octet_0) (fun _ h9 => h9) rfl dX5_octet_6 ?_
    refine lv_icmp_lt (tgt := 14) hx hb dX5_octet_9 (by decide) (fun c_2 => ?_) (fun c_2 => ?_)
    · have hf := ite_t hf c_2
      refine lv_aload_n hx hb dX5_octet_14 rfl (lv_at hl 0 rfl) ?_
      refine va_get (D := D) (ci := 4) (v := .ref hst) (C := RX5) (T := TX5) (N := 5) hx hb hts inX5_octet_X5 hown hK hP 0 rfl rfl 0 (by decide) (hts _ mX5_octet_1) (fun _ h9 => h9) rfl dX5_octet_15 ?_
      refine lv_iload_n hx hb dX5_octet_18 rfl (lv_at hl 1 rfl) ?_
      obtain ⟨b_3, hf⟩ := ite_n hf
      refine va_iald hx hb hK hP 1 0 rfl rfl b_3 dX5_octet_19 ?_
      exact W.iret (v := (sT x1.toNatClampNeg)) hx hb hr (fun t ht hW => ⟨_, rfl, Option.some.inj hf, ht⟩) (fun _ h => absurd h List.not_mem_nil) dX5_octet_20
    · have hf := ite_f hf c_2
      refine lv_iconst (v := (-1 : Int32)) hx hb dX5_octet_12 (by decide) ?_
      exact W.iret (v := (-1 : Int32)) hx hb hr (fun t ht hW => ⟨_, rfl, Option.some.inj hf, ht⟩) (fun _ h => absurd h List.not_mem_nil) dX5_octet_13
/-! SumForms.order(I)J -/
abbrev rX5_order : Room := { frames := 6, cells := 0, slots := 0, locals := 169 }
theorem mX5_order_0 : Cond.fieldLink RX5 19 "SumForms" "forms" "[LSumForms$Form;" ∈ wsX5_order := by decide +kernel
theorem mX5_order_1 : Cond.initialized RX0 ∈ wsX5_order := by decide +kernel
theorem mX5_order_2 : Cond.instanceMethod yX0_findFor ∈ wsX5_order := by decide +kernel
theorem mX5_order_3 : Cond.selects RX0 yX0_findFor yX0_findFor ∈ wsX5_order := by decide +kernel
theorem mX5_order_4 : Cond.instanceMethod yX0_foundPeriod ∈ wsX5_order := by decide +kernel
theorem mX5_order_5 : Cond.selects RX0 yX0_foundPeriod yX0_foundPeriod ∈ wsX5_order := by decide +kernel
theorem mX5_order_6 : Cond.constantLong RX5 50 (-1) ∈ wsX5_order := by decide +kernel
theorem inX5_order_X1 : ∀ w ∈ u_ws RX1 TX1 8, w ∈ wsX5_order := by decide +kernel
theorem inX5_order_X5 : ∀ w ∈ u_ws RX5 TX5 5, w ∈ wsX5_order := by decide +kernel
abbrev GX5_order (p : Program) (l : Launch) (e : Env) (s : State) (m : MethodId) (args : Array Value) (below : List Frame) (meth : Method) (c : Code) (D : va_G) (cy : Nat → ClassId) (A : Nat → Prop) (hsf : Nat) (hst : Nat) (hsq : Nat) (hre : Nat) (hfo : Nat) (hfa : Nat) (hun : Nat) (hfp : Nat) (hft : Nat) (sN : Int32) (sC : Int32) (sQ : Nat → Option Nat) (rw : Int32) (rg : Int64) (rs : Int64) (re : Int64) (ri : Int32) (ro : Int32) (r0 : Int64 × Int32 × Int64 × Int64 × (Nat → Int64) × (Nat → Int32)) (H : Heap) (locs : List Loc) (fr : JFrame) : Prop := W p l e (headSpec wsX5_order rX5_order).room s m args below meth c H locs 0 0 (MQ below (Qwl D A [(hsf, .inr (4, [.ref hst, .int sN, .ref hsq, .int sC, .ref hre])), (hsq, .inl (cy 3, 8, .inr (.inr (.inr (.inr sQ))))), (hfo, .inr (1, [.int rw, .long rg, .long rs, .long re, .int ri, .int ro, .ref hfa, .ref hun])), (hfa, .inr (0, [.ref hfp, .ref hft, .int r0.2.1, .long r0.2.2.1, .long r0.2.2.2.1])), (hfp, .inl (cy 1, 9, .inr (.inl r0.2.2.2.2.1))), (hft, .inl (cy 0, 9, .inl r0.2.2.2.2.2))] r0.1) args s 0 0 A) fr
def fX5_order (N : Nat) (sC : Int32) (rg : Int64) (fN : Int32) (fO : Int64) (fG : Int64) (fP : Nat → Int64) (fT : Nat → Int32) (x1 : Int32) : Option (Int64 × Int32 × Int64 × Int64 × (Nat → Int64) × (Nat → Int32)) := ((fX5_isForm N sC x1).bind (fun r_1 => (if r_1 = 0 then (some ((-1 : Int64), fN, fO, fG, fP, fT)) else (if OOB x1 8 then none else ((fX0_findFor N fN fO fG fP fT rg).bind (fun r_5 => ((fX0_foundPeriod N r_5.1 r_5.2.1 r_5.2.2.2.1 r_5.2.2.2.2).bind (fun r_9 => (some (r_9.1, r_5.1, r_9.2, r_5.2.2.1, r_5.2.2.2.1, r_5.2.2.2.2))))))))))
set_option maxHeartbeats 4000000 in
set_option maxRecDepth 100000 in
theorem ctX5_order (l : Launch) (D : va_G) (cy : Nat → ClassId) (N : Nat) (hsf hst hsq hre hfo hfa hun hfp hft tPR : Nat) (sz : Nat) (sN : Int32) (sC : Int32) (sQ : Nat → Option Nat) (rw : Int32) (rg : Int64) (rs : Int64) (re : Int64) (ri : Int32) (ro : Int32) (fN : Int32) (fO : Int64) (fG : Int64) (fP : Nat → Int64) (fT : Nat → Int32) (x1 : Int32) (r0 : Int64 × Int32 × Int64 × Int64 × (Nat → Int64) × (Nat → Int32)) (hQ : vp_in x1 8 → sQ x1.toNatClampNeg = some hfo) (hf : fX5_order N sC rg fN fO fG fP fT x1 = some r0) : Met l yX5_order wsX5_order rX5_order (va_Pc [.ref hsf, .int x1] (WrT D cy [(hsf, .inr (4, [.ref hst, .int sN, .ref hsq, .int sC, .ref hre])), (hsq, .inl (cy 3, 8, .inr (.inr (.inr (.inr sQ))))), (hfo, .inr (1, [.int rw, .long rg, .long rs, .long re, .int ri, .int ro, .ref hfa, .ref hun])), (hfa, .inr (0, [.ref hfp, .ref hft, .int fN, .long fO, .long fG])), (hfp, .inl (cy 1, 9, .inr (.inl fP))), (hft, .inl (cy 0, 9, .inl fT))] sz (ST0 tPR (va_A [(hsf, .inr (4, [.ref hst, .int sN, .ref hsq, .int sC, .ref hre])), (hsq, .inl (cy 3, 8, .inr (.inr (.inr (.inr sQ))))), (hfo, .inr (1, [.int rw, .long rg, .long rs, .long re, .int ri, .int ro, .ref hfa, .ref hun])), (hfa, .inr (0, [.ref hfp, .ref hft, .int fN, .long fO, .long fG])), (hfp, .inl (cy 1, 9, .inr (.inl fP))), (hft, .inl (cy 0, 9, .inl fT))] sz)))) (Qwl D (va_A [(hsf, .inr (4, [.ref hst, .int sN, .ref hsq, .int sC, .ref hre])), (hsq, .inl (cy 3, 8, .inr (.inr (.inr (.inr sQ))))), (hfo, .inr (1, [.int rw, .long rg, .long rs, .long re, .int ri, .int ro, .ref hfa, .ref hun])), (hfa, .inr (0, [.ref hfp, .ref hft, .int fN, .long fO, .long fG])), (hfp, .inl (cy 1, 9, .inr (.inl fP))), (hft, .inl (cy 0, 9, .inl fT))] sz) [(hsf, .inr (4, [.ref hst, .int sN, .ref hsq, .int sC, .ref hre])), (hsq, .inl (cy 3, 8, .inr (.inr (.inr (.inr sQ))))), (hfo, .inr (1, [.int rw, .long rg, .long rs, .long re, .int ri, .int ro, .ref hfa, .ref hun])), (hfa, .inr (0, [.ref hfp, .ref hft, .int r0.2.1, .long r0.2.2.1, .long r0.2.2.2.1])), (hfp, .inl (cy 1, 9, .inr (.inl r0.2.2.2.2.1))), (hft, .inl (cy 0, 9, .inl r0.2.2.2.2.2))] r0.1) 0 0 (va_A [(hsf, .inr (4, [.ref hst, .int sN, .ref hsq, .int sC, .ref hre])), (hsq, .inl (cy 3, 8, .inr (.inr (.inr (.inr sQ))))), (hfo, .inr (1, [.int rw, .long rg, .long rs, .long re, .int ri, .int ro, .ref hfa, .ref hun])), (hfa, .inr (0, [.ref hfp, .ref hft, .int fN, .long fO, .long fG])), (hfp, .inl (cy 1, 9, .inr (.inl fP))), (hft, .inl (cy 0, 9, .inl fT))] sz) := by
  refine Met.ofW (cc := cX5_order) (maxL := 3) (ret := (some .long)) (by decide) rfl ?_
  intro p e s m args below meth c s₁ B hml hv
  obtain ⟨rfl, hsz, hP, hD0, hB, hZ⟩ := hv
  have hx := B.exec
  have hb := B.bytes
  have hr := B.returns
  have hts := atoms_spec (ws := wsX5_order) B.pre
  have hown : s.vm.findClass RX5 = some m.cls := findClass_of_methodNamed B.named
  have hlocks := B.notSynchronized
  have hK := hB.1
  have hN := hB.2
  subst hsz
  have hD := hD0.self (sz := s.heap.size)
  have hA : ∀ q : Nat, s.heap.size ≤ q → va_A [(hsf, .inr (4, [.ref hst, .int sN, .ref hsq, .int sC, .ref hre])), (hsq, .inl (cy 3, 8, .inr (.inr (.inr (.inr sQ))))), (hfo, .inr (1, [.int rw, .long rg, .long rs, .long re, .int ri, .int ro, .ref hfa, .ref hun])), (hfa, .inr (0, [.ref hfp, .ref hft, .int fN, .long fO, .long fG])), (hfp, .inl (cy 1, 9, .inr (.inl fP))), (hft, .inl (cy 0, 9, .inl fT))] s.heap.size q := fun q h => Or.inr h
  generalize va_A [(hsf, .inr (4, [.ref hst, .int sN, .ref hsq, .int sC, .ref hre])), (hsq, .inl (cy 3, 8, .inr (.inr (.inr (.inr sQ))))), (hfo, .inr (1, [.int rw, .long rg, .long rs, .long re, .int ri, .int ro, .ref hfa, .ref hun])), (hfa, .inr (0, [.ref hfp, .ref hft, .int fN, .long fO, .long fG])), (hfp, .inl (cy 1, 9, .inr (.inl fP))), (hft, .inl (cy 0, 9, .inl fT))] s.heap.size = A at hD hA hZ ⊢
  have hS : va_S A s.heap s.heap [] := va_S.rf
  have hl := lv_entry ([.ref hsf, .int x1]) (n := 3) (Nat.le_of_ble_eq_true rfl)
  rw [lg_entry_eq]
  generalize (lg_sl ([.ref hsf, .int x1]) ++ List.replicate (3 - (lg_sl ([.ref hsf, .int x1])).length) Slot.unset).toArray = ls at hl ⊢
  have hl : lv_has ls 3 [(0, .ref hsf), (1, .int x1)] := hl
  have E0 : En p m c cX5_order 3 s ([.ref hsf, .int x1] : List Value).toArray wsX5_order RX5 meth (some .long) D cy := ⟨⟨hx, hb, hml, hown, hts⟩, hr, hlocks, hB⟩
  unfold fX5_order at hf
  refine lv_aload_n hx hb dX5_order_0 rfl (lv_at hl 0 rfl) ?_
  refine lv_iload_n hx hb dX5_order_1 rfl (lv_at hl 1 rfl) ?_
  obtain ⟨r_1, h_2, hf⟩ := bind_some hf
  have hP_r_1 : va_P D vwCl [(hsf, .inr (4, [.ref hst, .int sN, .ref hsq, .int sC, .ref hre]))] s.heap := hP.sub [0] rfl
  refine cz_i (va_runV (As := [.int x1]) (rest := []) ⟨hx, hb, hml, hown, hts⟩ (ctX5_isForm l D cy N hsf hst hsq hre sN sC x1 r_1 h_2) (cwV 1 hts gX5_order_X5_isForm rfl rfl rfl (by decide +kernel) ⟨Nat.le_of_ble_eq_true rfl, Nat.le_of_ble_eq_true rfl⟩) (preV_rd (ci := 4) (q0 := 0) [.int x1] hP_r_1 hB rfl rfl) rfl rfl hl.1 rfl (lv_room (Nat.le_of_ble_eq_true rfl)) dX5_order_2 ⟨Nat.zero_le _, Nat.zero_le _⟩) ?_
  refine lv_if_ne (tgt := 12) hx hb dX5_order_5 (by decide) (fun c_3 => ?_) (fun c_3 => ?_)
  · have hf := ite_f hf c_3
    refine lv_aload_n hx hb dX5_order_12 rfl (lv_at hl 0 rfl) ?_
    refine va_get (D := D) (ci := 4) (v := .ref hsq) (C := RX5) (T := TX5) (N := 5) hx hb hts inX5_order_X5 hown hK hP 0 rfl rfl 2 (by decide) (hts _ mX5_order_0) (fun _ h9 => h9) rfl dX5_order_13 ?_
    refine lv_iload_n hx hb dX5_order_16 rfl (lv_at hl 1 rfl) ?_
    obtain ⟨b_4, hf⟩ := ite_n hf
    refine zz_aald hx hb hK hP 1 3 rfl rfl b_4 (hQ b_4) dX5_order_17 ?_
    refine lv_astore_n (lv' := [(2, .ref hfo), (0, .ref hsf), (1, .int x1)]) hx hb dX5_order_18 rfl hl (by decide) rfl (fun ls hl => ?_)
    refine lv_aload_n hx hb dX5_order_19 rfl (lv_at hl 0 rfl) ?_
    refine va_getN (D := D) (ci := 1) (v := .ref hfa) (C := RX1) (T := TX1) (N := 8) hx hb hts inX5_order_X1 hown hK hP 2 rfl rfl 6 (by decide) (va_Nw.use rfl (nwX5_85 hN)) (fun _ h9 => h9) rfl dX5_order_20 ?_
    refine lv_aload_n hx hb dX5_order_23 rfl (lv_at hl 0 rfl) ?_
    refine va_getN (D := D) (ci := 1) (v := .long rg) (C := RX1) (T := TX1) (N := 8) hx hb hts inX5_order_X1 hown hK hP 2 rfl rfl 1 (by decide) (va_Nw.use rfl (nwX5_89 hN)) (fun _ h9 => h9) rfl dX5_order_24 ?_
    obtain ⟨r_5, h_6, hf⟩ := bind_some hf
    have hP_r_5 : va_P D vwCl [(hfa, .inr (0, [.ref hfp, .ref hft, .int fN, .long fO, .long fG])), (hfp, .inl (cy 1, 9, .inr (.inl fP))), (hft, .inl (cy 0, 9, .inl fT))] s.heap := hP.sub [3, 4, 5] rfl
    have hD_r_5 : va_D A [(hfa, .inr (0, [.ref hfp, .ref hft, .int fN, .long fO, .long fG])), (hfp, .inl (cy 1, 9, .inr (.inl fP))), (hft, .inl (cy 0, 9, .inl fT))] := hD.sub [3, 4, 5] (by decide) rfl
    refine cj_v (wc := [(hfa, .inr (0, [.ref hfp, .ref hft, .int fN, .long fO, .long fG])), (hfp, .inl (cy 1, 9, .inr (.inl fP))), (hft, .inl (cy 0, 9, .inl fT))]) (wr := [(hsf, .inr (4, [.ref hst, .int sN, .ref hsq, .int sC, .ref hre])), (hsq, .inl (cy 3, 8, .inr (.inr (.inr (.inr sQ))))), (hfo, .inr (1, [.int rw, .long rg, .long rs, .long re, .int ri, .int ro, .ref hfa, .ref hun]))]) (w1 := [(hfa, .inr (0, [.ref hfp, .ref hft, .int r_5.1, .long r_5.2.1, .long r_5.2.2.1])), (hfp, .inl (cy 1, 9, .inr (.inl r_5.2.2.2.1))), (hft, .inl (cy 0, 9, .inl r_5.2.2.2.2))]) [3, 4, 5] [0, 1, 2] (va_runVN (As := [.long rg]) (rest := []) ⟨hx, hb, hml, hown, hts⟩ (ctX0_findFor l D cy N hfa hfp hft s.heap.size fN fO fG fP fT rg r_5 h_6) ⟨va_cnB 1 hts gX5_order_X0_findFor_n92 rfl rfl rfl (nwX5_92 hN) (hts _ mX5_order_1) (by decide +kernel) ⟨Nat.le_of_ble_eq_true rfl, Nat.le_of_ble_eq_true rfl⟩, hts _ mX5_order_2, hts _ mX5_order_3⟩ (preV_wr (ci := 0) (q0 := 0) [.long rg] hP_r_5 hD_r_5 hB rfl rfl) rfl rfl hl.1 rfl (lv_room (Nat.le_of_ble_eq_true rfl)) dX5_order_27 ⟨Nat.zero_le _, Nat.zero_le _⟩) hP hD hS hA rfl rfl (by decide) (by decide) (fun H7 locs8 hP hD hS => ?_)
    have hP : va_P D vwCl [(hsf, .inr (4, [.ref hst, .int sN, .ref hsq, .int sC, .ref hre])), (hsq, .inl (cy 3, 8, .inr (.inr (.inr (.inr sQ))))), (hfo, .inr (1, [.int rw, .long rg, .long rs, .long re, .int ri, .int ro, .ref hfa, .ref hun])), (hfa, .inr (0, [.ref hfp, .ref hft, .int r_5.1, .long r_5.2.1, .long r_5.2.2.1])), (hfp, .inl (cy 1, 9, .inr (.inl r_5.2.2.2.1))), (hft, .inl (cy 0, 9, .inl r_5.2.2.2.2))] H7 := hP.sub [0, 1, 2, 3, 4, 5] rfl
    have hD : va_D A [(hsf, .inr (4, [.ref hst, .int sN, .ref hsq, .int sC, .ref hre])), (hsq, .inl (cy 3, 8, .inr (.inr (.inr (.inr sQ))))), (hfo, .inr (1, [.int rw, .long rg, .long rs, .long re, .int ri, .int ro, .ref hfa, .ref hun])), (hfa, .inr (0, [.ref hfp, .ref hft, .int r_5.1, .long r_5.2.1, .long r_5.2.2.1])), (hfp, .inl (cy 1, 9, .inr (.inl r_5.2.2.2.1))), (hft, .inl (cy 0, 9, .inl r_5.2.2.2.2))] := hD.sub [0, 1, 2, 3, 4, 5] (by decide) rfl
    refine lv_aload_n hx hb dX5_order_30 rfl (lv_at hl 0 rfl) ?_
    refine va_getN (D := D) (ci := 1) (v := .ref hfa) (C := RX1) (T := TX1) (N := 8) hx hb hts inX5_order_X1 hown hK hP 2 rfl rfl 6 (by decide) (va_Nw.use rfl (nwX5_85 hN)) (fun _ h9 => h9) rfl dX5_order_31 ?_
    obtain ⟨r_9, h_10, hf⟩ := bind_some hf
    have hP_r_9 : va_P D vwCl [(hfa, .inr (0, [.ref hfp, .ref hft, .int r_5.1, .long r_5.2.1, .long r_5.2.2.1])), (hfp, .inl (cy 1, 9, .inr (.inl r_5.2.2.2.1))), (hft, .inl (cy 0, 9, .inl r_5.2.2.2.2))] H7 := hP.sub [3, 4, 5] rfl
    have hD_r_9 : va_D A [(hfa, .inr (0, [.ref hfp, .ref hft, .int r_5.1, .long r_5.2.1, .long r_5.2.2.1])), (hfp, .inl (cy 1, 9, .inr (.inl r_5.2.2.2.1))), (hft, .inl (cy 0, 9, .inl r_5.2.2.2.2))] := hD.sub [3, 4, 5] (by decide) rfl
    refine cj_l (wc := [(hfa, .inr (0, [.ref hfp, .ref hft, .int r_5.1, .long r_5.2.1, .long r_5.2.2.1])), (hfp, .inl (cy 1, 9, .inr (.inl r_5.2.2.2.1))), (hft, .inl (cy 0, 9, .inl r_5.2.2.2.2))]) (wr := [(hsf, .inr (4, [.ref hst, .int sN, .ref hsq, .int sC, .ref hre])), (hsq, .inl (cy 3, 8, .inr (.inr (.inr (.inr sQ))))), (hfo, .inr (1, [.int rw, .long rg, .long rs, .long re, .int ri, .int ro, .ref hfa, .ref hun]))]) (w1 := [(hfa, .inr (0, [.ref hfp, .ref hft, .int r_5.1, .long r_9.2, .long r_5.2.2.1])), (hfp, .inl (cy 1, 9, .inr (.inl r_5.2.2.2.1))), (hft, .inl (cy 0, 9, .inl r_5.2.2.2.2))]) [3, 4, 5] [0, 1, 2] (va_runVN (As := []) (rest := []) ⟨hx, hb, hml, hown, hts⟩ (ctX0_foundPeriod l D cy N hfa hfp hft tPR H7.size r_5.1 r_5.2.1 r_5.2.2.1 r_5.2.2.2.1 r_5.2.2.2.2  r_9 h_10) ⟨va_cnB 0 hts gX5_order_X0_foundPeriod_n108 rfl rfl rfl (nwX5_108 hN) (hts _ mX5_order_1) (by decide +kernel) ⟨Nat.le_of_ble_eq_true rfl, Nat.le_of_ble_eq_true rfl⟩, hts _ mX5_order_4, hts _ mX5_order_5⟩ (preV_wrT (tab0 tPR _) (ci := 0) (q0 := 0) [] hP_r_9 hD_r_9 hB ((hZ.kept hS.2.1).narrow (va_free (wc := [(hfa, .inr (0, [.ref hfp, .ref hft, .int r_5.1, .long r_5.2.1, .long r_5.2.2.1])), (hfp, .inl (cy 1, 9, .inr (.inl r_5.2.2.2.1))), (hft, .inl (cy 0, 9, .inl r_5.2.2.2.2))]) hD hS hA [3, 4, 5] rfl)) rfl rfl) rfl rfl hl.1 rfl (lv_room (Nat.le_of_ble_eq_true rfl)) dX5_order_34 ⟨Nat.zero_le _, Nat.zero_le _⟩) hP hD hS hA rfl rfl (by decide) (by decide) (fun H11 locs12 hP hD hS => ?_)
    have hP : va_P D vwCl [(hsf, .inr (4, [.ref hst, .int sN, .ref hsq, .int sC, .ref hre])), (hsq, .inl (cy 3, 8, .inr (.inr (.inr (.inr sQ))))), (hfo, .inr (1, [.int rw, .long rg, .long rs, .long re, .int ri, .int ro, .ref hfa, .ref hun])), (hfa, .inr (0, [.ref hfp, .ref hft, .int r_5.1, .long r_9.2, .long r_5.2.2.1])), (hfp, .inl (cy 1, 9, .inr (.inl r_5.2.2.2.1))), (hft, .inl (cy 0, 9, .inl r_5.2.2.2.2))] H11 := hP.sub [0, 1, 2, 3, 4, 5] rfl
    have hD : va_D A [(hsf, .inr (4, [.ref hst, .int sN, .ref hsq, .int sC, .ref hre])), (hsq, .inl (cy 3, 8, .inr (.inr (.inr (.inr sQ))))), (hfo, .inr (1, [.int rw, .long rg, .long rs, .long re, .int ri, .int ro, .ref hfa, .ref hun])), (hfa, .inr (0, [.ref hfp, .ref hft, .int r_5.1, .long r_9.2, .long r_5.2.2.1])), (hfp, .inl (cy 1, 9, .inr (.inl r_5.2.2.2.1))), (hft, .inl (cy 0, 9, .inl r_5.2.2.2.2))] := hD.sub [0, 1, 2, 3, 4, 5] (by decide) rfl
    cases hf
    exact W.lret (v := r_9.1) hx hb hr (fun t ht hW => ⟨⟨_, (), rfl, rfl, by rw [ht]; exact hP, hD⟩, hS.F ht⟩) hS.2.2 dX5_order_37
  · have hf := ite_t hf c_3
    refine lv_ldc2 (v := (-1 : Int64)) hx hb hown (hts _ mX5_order_6) dX5_order_8 ?_
    cases hf
    exact W.lret (v := (-1 : Int64)) hx hb hr (fun t ht hW => ⟨⟨_, (), rfl, rfl, by rw [ht]; exact hP, hD⟩, hS.F ht⟩) hS.2.2 dX5_order_11
/-! SumForms.sum(III)J -/
abbrev rX5_sum : Room := { frames := 2, cells := 0, slots := 0, locals := 54 }
theorem mX5_sum_0 : Cond.constantLong RX5 50 (-1) ∈ wsX5_sum := by decide +kernel
theorem mX5_sum_1 : Cond.fieldLink RX5 19 "SumForms" "forms" "[LSumForms$Form;" ∈ wsX5_sum := by decide +kernel
theorem mX5_sum_2 : Cond.fieldLink RX5 9 "SumForms" "text" "[I" ∈ wsX5_sum := by decide +kernel
theorem mX5_sum_3 : Cond.initialized RX1 ∈ wsX5_sum := by decide +kernel
theorem mX5_sum_4 : Cond.instanceMethod yX1_behindOctet ∈ wsX5_sum := by decide +kernel
theorem mX5_sum_5 : Cond.selects RX1 yX1_behindOctet yX1_behindOctet ∈ wsX5_sum := by decide +kernel
theorem mX5_sum_6 : Cond.instanceMethod yX1_sumOf ∈ wsX5_sum := by decide +kernel
theorem mX5_sum_7 : Cond.selects RX1 yX1_sumOf yX1_sumOf ∈ wsX5_sum := by decide +kernel
theorem inX5_sum_X1 : ∀ w ∈ u_ws RX1 TX1 8, w ∈ wsX5_sum := by decide +kernel
theorem inX5_sum_X5 : ∀ w ∈ u_ws RX5 TX5 5, w ∈ wsX5_sum := by decide +kernel
abbrev GX5_sum (p : Program) (l : Launch) (e : Env) (s : State) (m : MethodId) (args : Array Value) (below : List Frame) (meth : Method) (c : Code) (r0 : Int64) (fr : JFrame) : Prop := W p l e (headSpec wsX5_sum rX5_sum).room s m args below meth c s.heap [] 0 0 (MQ below (vp_Sl (fun r => r = r0)) args s 0 0 (fun _ => False)) fr
def fX5_sum_B39 (N : Nat) (sN : Int32) (sC : Int32) (sT : Nat → Int32) (rw : Int32) (rg : Int64) (rs : Int64) (re : Int64) (ri : Int32) (ro : Int32) (x3 : Int32) (self : Int64 → Int32 → Option (Int64)) (k : Int64 → Option (Int64)) (x5 : Int64) (x7 : Int32) : Option (Int64) := (if x3 ≤ x7 then (k x5) else (if OOB x7 600 then none else ((fX1_behindOctet N rw rg ri x5 (sT x7.toNatClampNeg)).bind (fun r_10 => (self r_10 (x7 + (1 : Int32)))))))
def fX5_sum_L39 (N : Nat) (sN : Int32) (sC : Int32) (sT : Nat → Int32) (rw : Int32) (rg : Int64) (rs : Int64) (re : Int64) (ri : Int32) (ro : Int32) (x3 : Int32) (k : Int64 → Option (Int64)) : Nat → Int64 → Int32 → Option (Int64)
  | 0 => fun _ _ => none
  | n + 1 => fun x5 x7 => fX5_sum_B39 N sN sC sT rw rg rs re ri ro x3 (fX5_sum_L39 N sN sC sT rw rg rs re ri ro x3 k n) k x5 x7
def fX5_sum (N : Nat) (sN : Int32) (sC : Int32) (sT : Nat → Int32) (rw : Int32) (rg : Int64) (rs : Int64) (re : Int64) (ri : Int32) (ro : Int32) (x1 : Int32) (x2 : Int32) (x3 : Int32) : Option (Int64) := ((fX5_isForm N sC x1).bind (fun r_1 => (if r_1 = 0 then (some (-1 : Int64)) else ((fX5_isPart N sN x2 x3).bind (fun r_4 => (if r_4 = 0 then (some (-1 : Int64)) else (if OOB x1 8 then none else (fX5_sum_L39 N sN sC sT rw rg rs re ri ro x3 (fun x5_12 => ((fX1_sumOf N rw re ro x5_12).bind (fun r_13 => (some r_13)))) N rs x2))))))))
set_option maxHeartbeats 4000000 in
set_option maxRecDepth 100000 in
theorem wX5_sum_B39 {p : Program} {l : Launch} {e : Env} {s : State} {m : MethodId} {args : Array Value} {below : List Frame} {meth : Method} {c : Code} {D : va_G} {cy : Nat → ClassId} {hsf hst hsq hre hfo hfa hun : Nat} {sQ : Nat → Option Nat} {r0 : Int64} (E0 : En p m c cX5_sum 8 s args wsX5_sum RX5 meth (some .long) D cy) (N : Nat) (sN : Int32) (sC : Int32) (sT : Nat → Int32) (rw : Int32) (rg : Int64) (rs : Int64) (re : Int64) (ri : Int32) (ro : Int32) (x3 : Int32) (hP : va_P D vwCl [(hsf, .inr (4, [.ref hst, .int sN, .ref hsq, .int sC, .ref hre])), (hst, .inl (cy 0, 600, .inl sT)), (hsq, .inl (cy 3, 8, .inr (.inr (.inr (.inr sQ))))), (hfo, .inr (1, [.int rw, .long rg, .long rs, .long re, .int ri, .int ro, .ref hfa, .ref hun]))] s.heap) (self : Int64 → Int32 → Option (Int64)) (hself : ∀ (x5 : Int64) (x7 : Int32) (ls : Array Slot), lv_has ls 8 [(0, .ref hsf), (3, .int x3), (4, .ref hfo), (5, .long x5), (7, .int x7)] → self x5 x7 = some r0 → GX5_sum p l e s m args below meth c r0 (F0 m 39 ls [])) (k : Int64 → Option (Int64)) (hk : ∀ (x5 : Int64) (ls : Array Slot), lv_has ls 8 [(4, .ref hfo), (5, .long x5)] → k x5 = some r0 → GX5_sum p l e s m args below meth c r0 (F0 m 67 ls [])) : ∀ (x5 : Int64) (x7 : Int32) (ls : Array Slot), lv_has ls 8 [(0, .ref hsf), (3, .int x3), (4, .ref hfo), (5, .long x5), (7, .int x7)] → fX5_sum_B39 N sN sC sT rw rg rs re ri ro x3 self k x5 x7 = some r0 → GX5_sum p l e s m args below meth c r0 (F0 m 39 ls []) := by
  obtain ⟨⟨hx, hb, hml, hown, hts⟩, hr, hlocks, hB⟩ := id E0
  have hK := hB.1
  have hN := hB.2
  intro x5 x7 ls hl hf
  unfold fX5_sum_B39 at hf
  refine lv_iload hx hb dX5_sum_39 (lv_at hl 4 rfl) ?_
  refine lv_iload_n hx hb dX5_sum_41 rfl (lv_at hl 1 rfl) ?_
  refine lv_icmp_ge (tgt := 67) hx hb dX5_sum_42 (by decide) (fun c_8 => ?_) (fun c_8 => ?_)
  · have hf := ite_t hf c_8
    exact hk _ _ (lv_sub hl [2, 3] rfl) hf
  · have hf := ite_f hf c_8
    refine lv_aload hx hb dX5_sum_45 (lv_at hl 2 rfl) ?_
    refine lv_lload hx hb dX5_sum_47 (lv_at hl 3 rfl) ?_
    refine lv_aload_n hx hb dX5_sum_49 rfl (lv_at hl 0 rfl) ?_
    refine va_get (D := D) (ci := 4) (v := .ref hst) (C := RX5) (T := TX5) (N := 5) hx hb hts inX5_sum_X5 hown hK hP 0 rfl rfl 0 (by decide) (hts _ mX5_sum_2) (fun _ h9 => h9) rfl dX5_sum_50 ?_
    refine lv_iload hx hb dX5_sum_53 (lv_at hl 4 rfl) ?_
    obtain ⟨b_9, hf⟩ := ite_n hf
    refine va_iald hx hb hK hP 1 0 rfl rfl b_9 dX5_sum_55 ?_
    obtain ⟨r_10, h_11, hf⟩ := bind_some hf
    have hP_r_10 : va_P D vwCl [(hfo, .inr (1, [.int rw, .long rg, .long rs, .long re, .int ri, .int ro, .ref hfa, .ref hun]))] s.heap := hP.sub [3] rfl
    refine cz_l (va_runVN (As := [.long x5, .int (sT x7.toNatClampNeg)]) (rest := []) ⟨hx, hb, hml, hown, hts⟩ (ctX1_behindOctet l D cy N hfo hfa hun rw rg rs re ri ro x5 (sT x7.toNatClampNeg) r_10 h_11) ⟨va_cnB 2 hts gX5_sum_X1_behindOctet_n56 rfl rfl rfl (nwX5_56 hN) (hts _ mX5_sum_3) (by decide +kernel) ⟨Nat.le_of_ble_eq_true rfl, Nat.le_of_ble_eq_true rfl⟩, hts _ mX5_sum_4, hts _ mX5_sum_5⟩ (preV_rd (ci := 1) (q0 := 0) [.long x5, .int (sT x7.toNatClampNeg)] hP_r_10 hB rfl rfl) rfl rfl hl.1 rfl (lv_room (Nat.le_of_ble_eq_true rfl)) dX5_sum_56 ⟨Nat.zero_le _, Nat.zero_le _⟩) ?_
    refine lv_lstore (lv' := [(5, .long r_10), (0, .ref hsf), (3, .int x3), (4, .ref hfo), (7, .int x7)]) hx hb dX5_sum_59 hl (by decide) rfl (fun ls hl => ?_)
    refine lv_iinc (v := (x7 + (1 : Int32))) (lv' := [(7, .int (x7 + (1 : Int32))), (5, .long r_10), (0, .ref hsf), (3, .int x3), (4, .ref hfo)]) hx hb dX5_sum_61 hl (k := 4) rfl rfl (by decide) rfl (fun ls hl => ?_)
    refine lv_goto (tgt := 39) hx hb dX5_sum_64 (by decide) ?_
    exact hself _ _ _ (lv_sub hl [2, 3, 4, 1, 0] rfl) hf
theorem wX5_sum_L39 {p : Program} {l : Launch} {e : Env} {s : State} {m : MethodId} {args : Array Value} {below : List Frame} {meth : Method} {c : Code} {D : va_G} {cy : Nat → ClassId} {hsf hst hsq hre hfo hfa hun : Nat} {sQ : Nat → Option Nat} {r0 : Int64} (E0 : En p m c cX5_sum 8 s args wsX5_sum RX5 meth (some .long) D cy) (N : Nat) (sN : Int32) (sC : Int32) (sT : Nat → Int32) (rw : Int32) (rg : Int64) (rs : Int64) (re : Int64) (ri : Int32) (ro : Int32) (x3 : Int32) (hP : va_P D vwCl [(hsf, .inr (4, [.ref hst, .int sN, .ref hsq, .int sC, .ref hre])), (hst, .inl (cy 0, 600, .inl sT)), (hsq, .inl (cy 3, 8, .inr (.inr (.inr (.inr sQ))))), (hfo, .inr (1, [.int rw, .long rg, .long rs, .long re, .int ri, .int ro, .ref hfa, .ref hun]))] s.heap) (k : Int64 → Option (Int64)) (hk : ∀ (x5 : Int64) (ls : Array Slot), lv_has ls 8 [(4, .ref hfo), (5, .long x5)] → k x5 = some r0 → GX5_sum p l e s m args below meth c r0 (F0 m 67 ls [])) : ∀ (n : Nat), ∀ (x5 : Int64) (x7 : Int32) (ls : Array Slot), lv_has ls 8 [(0, .ref hsf), (3, .int x3), (4, .ref hfo), (5, .long x5), (7, .int x7)] → fX5_sum_L39 N sN sC sT rw rg rs re ri ro x3 k n x5 x7 = some r0 → GX5_sum p l e s m args below meth c r0 (F0 m 39 ls []) := by
  intro n
  induction n with
  | zero => intro x5 x7 ls hl hf; cases hf
  | succ n ih => exact wX5_sum_B39 E0 N sN sC sT rw rg rs re ri ro x3 hP _ ih k hk
set_option maxHeartbeats 4000000 in
set_option maxRecDepth 100000 in
theorem ctX5_sum (l : Launch) (D : va_G) (cy : Nat → ClassId) (N : Nat) (hsf hst hsq hre hfo hfa hun : Nat) (sN : Int32) (sC : Int32) (sT : Nat → Int32) (sQ : Nat → Option Nat) (rw : Int32) (rg : Int64) (rs : Int64) (re : Int64) (ri : Int32) (ro : Int32) (x1 : Int32) (x2 : Int32) (x3 : Int32) (r0 : Int64) (hQ : vp_in x1 8 → sQ x1.toNatClampNeg = some hfo) (hf : fX5_sum N sN sC sT rw rg rs re ri ro x1 x2 x3 = some r0) : Met l yX5_sum wsX5_sum rX5_sum (va_Pc [.ref hsf, .int x1, .int x2, .int x3] (Rd D cy [(hsf, .inr (4, [.ref hst, .int sN, .ref hsq, .int sC, .ref hre])), (hst, .inl (cy 0, 600, .inl sT)), (hsq, .inl (cy 3, 8, .inr (.inr (.inr (.inr sQ))))), (hfo, .inr (1, [.int rw, .long rg, .long rs, .long re, .int ri, .int ro, .ref hfa, .ref hun]))])) (vp_Sl (fun r => r = r0)) 0 0 (fun _ => False) := by
  refine Met.ofW (cc := cX5_sum) (maxL := 8) (ret := (some .long)) (by decide) rfl ?_
  intro p e s m args below meth c s₁ B hml hv
  obtain ⟨rfl, hP, hB⟩ := hv
  have hx := B.exec
  have hb := B.bytes
  have hr := B.returns
  have hts := atoms_spec (ws := wsX5_sum) B.pre
  have hown : s.vm.findClass RX5 = some m.cls := findClass_of_methodNamed B.named
  have hlocks := B.notSynchronized
  have hK := hB.1
  have hN := hB.2
  have hl := lv_entry ([.ref hsf, .int x1, .int x2, .int x3]) (n := 8) (Nat.le_of_ble_eq_true rfl)
  rw [lg_entry_eq]
  generalize (lg_sl ([.ref hsf, .int x1, .int x2, .int x3]) ++ List.replicate (8 - (lg_sl ([.ref hsf, .int x1, .int x2, .int x3])).length) Slot.unset).toArray = ls at hl ⊢
  have hl : lv_has ls 8 [(0, .ref hsf), (1, .int x1), (2, .int x2), (3, .int x3)] := hl
  have E0 : En p m c cX5_sum 8 s ([.ref hsf, .int x1, .int x2, .int x3] : List Value).toArray wsX5_sum RX5 meth (some .long) D cy := ⟨⟨hx, hb, hml, hown, hts⟩, hr, hlocks, hB⟩
  unfold fX5_sum at hf
  refine lv_aload_n hx hb dX5_sum_0 rfl (lv_at hl 0 rfl) ?_
  refine lv_iload_n hx hb dX5_sum_1 rfl (lv_at hl 1 rfl) ?_
  obtain ⟨r_1, h_2, hf⟩ := bind_some hf
  have hP_r_1 : va_P D vwCl [(hsf, .inr (4, [.ref hst, .int sN, .ref hsq, .int sC, .ref hre]))] s.heap := hP.sub [0] rfl
  refine cz_i (va_runV (As := [.int x1]) (rest := []) ⟨hx, hb, hml, hown, hts⟩ (ctX5_isForm l D cy N hsf hst hsq hre sN sC x1 r_1 h_2) (cwV 1 hts gX5_sum_X5_isForm rfl rfl rfl (by decide +kernel) ⟨Nat.le_of_ble_eq_true rfl, Nat.le_of_ble_eq_true rfl⟩) (preV_rd (ci := 4) (q0 := 0) [.int x1] hP_r_1 hB rfl rfl) rfl rfl hl.1 rfl (lv_room (Nat.le_of_ble_eq_true rfl)) dX5_sum_2 ⟨Nat.zero_le _, Nat.zero_le _⟩) ?_
  refine lv_if_eq (tgt := 17) hx hb dX5_sum_5 (by decide) (fun c_3 => ?_) (fun c_3 => ?_)
  · have hf := ite_t hf c_3
    refine lv_ldc2 (v := (-1 : Int64)) hx hb hown (hts _ mX5_sum_0) dX5_sum_17 ?_
    exact W.lret (v := (-1 : Int64)) hx hb hr (fun t ht hW => ⟨_, rfl, Option.some.inj hf, ht⟩) (fun _ h => absurd h List.not_mem_nil) dX5_sum_20
  · have hf := ite_f hf c_3
    refine lv_aload_n hx hb dX5_sum_8 rfl (lv_at hl 0 rfl) ?_
    refine lv_iload_n hx hb dX5_sum_9 rfl (lv_at hl 2 rfl) ?_
    refine lv_iload_n hx hb dX5_sum_10 rfl (lv_at hl 3 rfl) ?_
    obtain ⟨r_4, h_5, hf⟩ := bind_some hf
    have hP_r_4 : va_P D vwCl [(hsf, .inr (4, [.ref hst, .int sN, .ref hsq, .int sC, .ref hre]))] s.heap := hP.sub [0] rfl
    refine cz_i (va_runV (As := [.int x2, .int x3]) (rest := []) ⟨hx, hb, hml, hown, hts⟩ (ctX5_isPart l D cy N hsf hst hsq hre sN sC x2 x3 r_4 h_5) (cwV 2 hts gX5_sum_X5_isPart rfl rfl rfl (by decide +kernel) ⟨Nat.le_of_ble_eq_true rfl, Nat.le_of_ble_eq_true rfl⟩) (preV_rd (ci := 4) (q0 := 0) [.int x2, .int x3] hP_r_4 hB rfl rfl) rfl rfl hl.1 rfl (lv_room (Nat.le_of_ble_eq_true rfl)) dX5_sum_11 ⟨Nat.zero_le _, Nat.zero_le _⟩) ?_
    refine lv_if_ne (tgt := 21) hx hb dX5_sum_14 (by decide) (fun c_6 => ?_) (fun c_6 => ?_)
    · have hf := ite_f hf c_6
      refine lv_aload_n hx hb dX5_sum_21 rfl (lv_at hl 0 rfl) ?_
      refine va_get (D := D) (ci := 4) (v := .ref hsq) (C := RX5) (T := TX5) (N := 5) hx hb hts inX5_sum_X5 hown hK hP 0 rfl rfl 2 (by decide) (hts _ mX5_sum_1) (fun _ h9 => h9) rfl dX5_sum_22 ?_
      refine lv_iload_n hx hb dX5_sum_25 rfl (lv_at hl 1 rfl) ?_
      obtain ⟨b_7, hf⟩ := ite_n hf
      refine zz_aald hx hb hK hP 2 3 rfl rfl b_7 (hQ b_7) dX5_sum_26 ?_
      refine lv_astore (lv' := [(4, .ref hfo), (0, .ref hsf), (1, .int x1), (2, .int x2), (3, .int x3)]) hx hb dX5_sum_27 hl (by decide) rfl (fun ls hl => ?_)
      refine lv_aload hx hb dX5_sum_29 (lv_at hl 0 rfl) ?_
      refine va_getN (D := D) (ci := 1) (v := .long rs) (C := RX1) (T := TX1) (N := 8) hx hb hts inX5_sum_X1 hown hK hP 3 rfl rfl 2 (by decide) (va_Nw.use rfl (nwX5_52 hN)) (fun _ h9 => h9) rfl dX5_sum_31 ?_
      refine lv_lstore (lv' := [(5, .long rs), (4, .ref hfo), (0, .ref hsf), (1, .int x1), (2, .int x2), (3, .int x3)]) hx hb dX5_sum_34 hl (by decide) rfl (fun ls hl => ?_)
      refine lv_iload_n hx hb dX5_sum_36 rfl (lv_at hl 4 rfl) ?_
      refine lv_istore (lv' := [(7, .int x2), (5, .long rs), (4, .ref hfo), (0, .ref hsf), (1, .int x1), (2, .int x2), (3, .int x3)]) hx hb dX5_sum_37 hl (by decide) rfl (fun ls hl => ?_)
      refine wX5_sum_L39 E0 N sN sC sT rw rg rs re ri ro x3 hP _ (fun x5_12 ls hl hf => ?_) N _ _ _ (lv_sub hl [3, 6, 2, 1, 0] rfl) hf
      refine lv_aload hx hb dX5_sum_67 (lv_at hl 0 rfl) ?_
      refine lv_lload hx hb dX5_sum_69 (lv_at hl 1 rfl) ?_
      obtain ⟨r_13, h_14, hf⟩ := bind_some hf
      have hP_r_13 : va_P D vwCl [(hfo, .inr (1, [.int rw, .long rg, .long rs, .long re, .int ri, .int ro, .ref hfa, .ref hun]))] s.heap := hP.sub [3] rfl
      refine cz_l (va_runVN (As := [.long x5_12]) (rest := []) ⟨hx, hb, hml, hown, hts⟩ (ctX1_sumOf l D cy N hfo hfa hun rw rg rs re ri ro x5_12 r_13 h_14) ⟨va_cnB 1 hts gX5_sum_X1_sumOf_n60 rfl rfl rfl (nwX5_60 hN) (hts _ mX5_sum_3) (by decide +kernel) ⟨Nat.le_of_ble_eq_true rfl, Nat.le_of_ble_eq_true rfl⟩, hts _ mX5_sum_6, hts _ mX5_sum_7⟩ (preV_rd (ci := 1) (q0 := 0) [.long x5_12] hP_r_13 hB rfl rfl) rfl rfl hl.1 rfl (lv_room (Nat.le_of_ble_eq_true rfl)) dX5_sum_71 ⟨Nat.zero_le _, Nat.zero_le _⟩) ?_
      exact W.lret (v := r_13) hx hb hr (fun t ht hW => ⟨_, rfl, Option.some.inj hf, ht⟩) (fun _ h => absurd h List.not_mem_nil) dX5_sum_74
    · have hf := ite_t hf c_6
      refine lv_ldc2 (v := (-1 : Int64)) hx hb hown (hts _ mX5_sum_0) dX5_sum_17 ?_
      exact W.lret (v := (-1 : Int64)) hx hb hr (fun t ht hW => ⟨_, rfl, Option.some.inj hf, ht⟩) (fun _ h => absurd h List.not_mem_nil) dX5_sum_20
/-! SumForms.tail(IJJ)J -/
abbrev rX5_tail : Room := { frames := 3, cells := 0, slots := 0, locals := 78 }
theorem mX5_tail_0 : Cond.constantLong RX5 50 (-1) ∈ wsX5_tail := by decide +kernel
theorem mX5_tail_1 : Cond.fieldLink RX5 19 "SumForms" "forms" "[LSumForms$Form;" ∈ wsX5_tail := by decide +kernel
theorem mX5_tail_2 : Cond.initialized RX1 ∈ wsX5_tail := by decide +kernel
theorem mX5_tail_3 : Cond.instanceMethod yX1_registerOf ∈ wsX5_tail := by decide +kernel
theorem mX5_tail_4 : Cond.selects RX1 yX1_registerOf yX1_registerOf ∈ wsX5_tail := by decide +kernel
theorem mX5_tail_5 : Cond.instanceMethod yX1_octetsBetween ∈ wsX5_tail := by decide +kernel
theorem mX5_tail_6 : Cond.selects RX1 yX1_octetsBetween yX1_octetsBetween ∈ wsX5_tail := by decide +kernel
theorem inX5_tail_X1 : ∀ w ∈ u_ws RX1 TX1 8, w ∈ wsX5_tail := by decide +kernel
theorem inX5_tail_X5 : ∀ w ∈ u_ws RX5 TX5 5, w ∈ wsX5_tail := by decide +kernel
abbrev GX5_tail (p : Program) (l : Launch) (e : Env) (s : State) (m : MethodId) (args : Array Value) (below : List Frame) (meth : Method) (c : Code) (r0 : Int64) (fr : JFrame) : Prop := W p l e (headSpec wsX5_tail rX5_tail).room s m args below meth c s.heap [] 0 0 (MQ below (vp_Sl (fun r => r = r0)) args s 0 0 (fun _ => False)) fr
def fX5_tail (N : Nat) (sC : Int32) (rw : Int32) (rg : Int64) (re : Int64) (ri : Int32) (ro : Int32) (x1 : Int32) (x2 : Int64) (x4 : Int64) : Option (Int64) := ((fX5_isSum N sC rw x1 x2).bind (fun r_1 => (if r_1 = 0 then (some (-1 : Int64)) else ((fX5_isSum N sC rw x1 x4).bind (fun r_4 => (if r_4 = 0 then (some (-1 : Int64)) else (if OOB x1 8 then none else (if (iRem rw (8 : Int32)) = 0 then (if OOB x1 8 then none else ((fX1_registerOf N rw re ro x2).bind (fun r_10 => ((fX1_registerOf N rw re ro x4).bind (fun r_12 => ((fX1_octetsBetween N rw rg ri r_10 r_12).bind (fun r_14 => (some r_14)))))))) else (some (-1 : Int64))))))))))
set_option maxHeartbeats 4000000 in
set_option maxRecDepth 100000 in
theorem ctX5_tail (l : Launch) (D : va_G) (cy : Nat → ClassId) (N : Nat) (hsf hst hsq hre hfo hfa hun : Nat) (sN : Int32) (sC : Int32) (sQ : Nat → Option Nat) (rw : Int32) (rg : Int64) (rs : Int64) (re : Int64) (ri : Int32) (ro : Int32) (x1 : Int32) (x2 : Int64) (x4 : Int64) (r0 : Int64) (hQ : vp_in x1 8 → sQ x1.toNatClampNeg = some hfo) (hf : fX5_tail N sC rw rg re ri ro x1 x2 x4 = some r0) : Met l yX5_tail wsX5_tail rX5_tail (va_Pc [.ref hsf, .int x1, .long x2, .long x4] (Rd D cy [(hsf, .inr (4, [.ref hst, .int sN, .ref hsq, .int sC, .ref hre])), (hsq, .inl (cy 3, 8, .inr (.inr (.inr (.inr sQ))))), (hfo, .inr (1, [.int rw, .long rg, .long rs, .long re, .int ri, .int ro, .ref hfa, .ref hun]))])) (vp_Sl (fun r => r = r0)) 0 0 (fun _ => False) := by
  refine Met.ofW (cc := cX5_tail) (maxL := 7) (ret := (some .long)) (by decide) rfl ?_
  intro p e s m args below meth c s₁ B hml hv
  obtain ⟨rfl, hP, hB⟩ := hv
  have hx := B.exec
  have hb := B.bytes
  have hr := B.returns
  have hts := atoms_spec (ws := wsX5_tail) B.pre
  have hown : s.vm.findClass RX5 = some m.cls := findClass_of_methodNamed B.named
  have hlocks := B.notSynchronized
  have hK := hB.1
  have hN := hB.2
  have hl := lv_entry ([.ref hsf, .int x1, .long x2, .long x4]) (n := 7) (Nat.le_of_ble_eq_true rfl)
  rw [lg_entry_eq]
  generalize (lg_sl ([.ref hsf, .int x1, .long x2, .long x4]) ++ List.replicate (7 - (lg_sl ([.ref hsf, .int x1, .long x2, .long x4])).length) Slot.unset).toArray = ls at hl ⊢
  have hl : lv_has ls 7 [(0, .ref hsf), (1, .int x1), (2, .long x2), (4, .long x4)] := hl
  have E0 : En p m c cX5_tail 7 s ([.ref hsf, .int x1, .long x2, .long x4] : List Value).toArray wsX5_tail RX5 meth (some .long) D cy := ⟨⟨hx, hb, hml, hown, hts⟩, hr, hlocks, hB⟩
  unfold fX5_tail at hf
  refine lv_aload_n hx hb dX5_tail_0 rfl (lv_at hl 0 rfl) ?_
  refine lv_iload_n hx hb dX5_tail_1 rfl (lv_at hl 1 rfl) ?_
  refine lv_lload_n hx hb dX5_tail_2 rfl (lv_at hl 2 rfl) ?_
  obtain ⟨r_1, h_2, hf⟩ := bind_some hf
  have hP_r_1 : va_P D vwCl [(hsf, .inr (4, [.ref hst, .int sN, .ref hsq, .int sC, .ref hre])), (hsq, .inl (cy 3, 8, .inr (.inr (.inr (.inr sQ))))), (hfo, .inr (1, [.int rw, .long rg, .long rs, .long re, .int ri, .int ro, .ref hfa, .ref hun]))] s.heap := hP.sub [0, 1, 2] rfl
  refine cz_i (va_runV (As := [.int x1, .long x2]) (rest := []) ⟨hx, hb, hml, hown, hts⟩ (ctX5_isSum l D cy N hsf hst hsq hre hfo hfa hun sN sC sQ rw rg rs re ri ro x1 x2 r_1 hQ h_2) (cwV 2 hts gX5_tail_X5_isSum rfl rfl rfl (by decide +kernel) ⟨Nat.le_of_ble_eq_true rfl, Nat.le_of_ble_eq_true rfl⟩) (preV_rd (ci := 4) (q0 := 0) [.int x1, .long x2] hP_r_1 hB rfl rfl) rfl rfl hl.1 rfl (lv_room (Nat.le_of_ble_eq_true rfl)) dX5_tail_3 ⟨Nat.zero_le _, Nat.zero_le _⟩) ?_
  refine lv_if_eq (tgt := 34) hx hb dX5_tail_6 (by decide) (fun c_3 => ?_) (fun c_3 => ?_)
  · have hf := ite_t hf c_3
    refine lv_ldc2 (v := (-1 : Int64)) hx hb hown (hts _ mX5_tail_0) dX5_tail_34 ?_
    exact W.lret (v := (-1 : Int64)) hx hb hr (fun t ht hW => ⟨_, rfl, Option.some.inj hf, ht⟩) (fun _ h => absurd h List.not_mem_nil) dX5_tail_37
  · have hf := ite_f hf c_3
    refine lv_aload_n hx hb dX5_tail_9 rfl (lv_at hl 0 rfl) ?_
    refine lv_iload_n hx hb dX5_tail_10 rfl (lv_at hl 1 rfl) ?_
    refine lv_lload hx hb dX5_tail_11 (lv_at hl 3 rfl) ?_
    obtain ⟨r_4, h_5, hf⟩ := bind_some hf
    have hP_r_4 : va_P D vwCl [(hsf, .inr (4, [.ref hst, .int sN, .ref hsq, .int sC, .ref hre])), (hsq, .inl (cy 3, 8, .inr (.inr (.inr (.inr sQ))))), (hfo, .inr (1, [.int rw, .long rg, .long rs, .long re, .int ri, .int ro, .ref hfa, .ref hun]))] s.heap := hP.sub [0, 1, 2] rfl
    refine cz_i (va_runV (As := [.int x1, .long x4]) (rest := []) ⟨hx, hb, hml, hown, hts⟩ (ctX5_isSum l D cy N hsf hst hsq hre hfo hfa hun sN sC sQ rw rg rs re ri ro x1 x4 r_4 hQ h_5) (cwV 2 hts gX5_tail_X5_isSum rfl rfl rfl (by decide +kernel) ⟨Nat.le_of_ble_eq_true rfl, Nat.le_of_ble_eq_true rfl⟩) (preV_rd (ci := 4) (q0 := 0) [.int x1, .long x4] hP_r_4 hB rfl rfl) rfl rfl hl.1 rfl (lv_room (Nat.le_of_ble_eq_true rfl)) dX5_tail_13 ⟨Nat.zero_le _, Nat.zero_le _⟩) ?_
    refine lv_if_eq (tgt := 34) hx hb dX5_tail_16 (by decide) (fun c_6 => ?_) (fun c_6 => ?_)
    · have hf := ite_t hf c_6
      refine lv_ldc2 (v := (-1 : Int64)) hx hb hown (hts _ mX5_tail_0) dX5_tail_34 ?_
      exact W.lret (v := (-1 : Int64)) hx hb hr (fun t ht hW => ⟨_, rfl, Option.some.inj hf, ht⟩) (fun _ h => absurd h List.not_mem_nil) dX5_tail_37
    · have hf := ite_f hf c_6
      refine lv_aload_n hx hb dX5_tail_19 rfl (lv_at hl 0 rfl) ?_
      refine va_get (D := D) (ci := 4) (v := .ref hsq) (C := RX5) (T := TX5) (N := 5) hx hb hts inX5_tail_X5 hown hK hP 0 rfl rfl 2 (by decide) (hts _ mX5_tail_1) (fun _ h9 => h9) rfl dX5_tail_20 ?_
      refine lv_iload_n hx hb dX5_tail_23 rfl (lv_at hl 1 rfl) ?_
      obtain ⟨b_7, hf⟩ := ite_n hf
      refine zz_aald hx hb hK hP 1 3 rfl rfl b_7 (hQ b_7) dX5_tail_24 ?_
      refine va_getN (D := D) (ci := 1) (v := .int rw) (C := RX1) (T := TX1) (N := 8) hx hb hts inX5_tail_X1 hown hK hP 2 rfl rfl 0 (by decide) (va_Nw.use rfl (nwX5_79 hN)) (fun _ h9 => h9) rfl dX5_tail_25 ?_
      refine lv_bipush (v := (8 : Int32)) hx hb dX5_tail_28 (by decide) ?_
      refine zz_irem hx hb dX5_tail_30 (by decide) ?_
      refine lv_if_eq (tgt := 38) hx hb dX5_tail_31 (by decide) (fun c_8 => ?_) (fun c_8 => ?_)
      · have hf := ite_t hf c_8
        refine lv_aload_n hx hb dX5_tail_38 rfl (lv_at hl 0 rfl) ?_
        refine va_get (D := D) (ci := 4) (v := .ref hsq) (C := RX5) (T := TX5) (N := 5) hx hb hts inX5_tail_X5 hown hK hP 0 rfl rfl 2 (by decide) (hts _ mX5_tail_1) (fun _ h9 => h9) rfl dX5_tail_39 ?_
        refine lv_iload_n hx hb dX5_tail_42 rfl (lv_at hl 1 rfl) ?_
        obtain ⟨b_9, hf⟩ := ite_n hf
        refine zz_aald hx hb hK hP 1 3 rfl rfl b_9 (hQ b_9) dX5_tail_43 ?_
        refine lv_astore (lv' := [(6, .ref hfo), (0, .ref hsf), (1, .int x1), (2, .long x2), (4, .long x4)]) hx hb dX5_tail_44 hl (by decide) rfl (fun ls hl => ?_)
        refine lv_aload hx hb dX5_tail_46 (lv_at hl 0 rfl) ?_
        refine lv_aload hx hb dX5_tail_48 (lv_at hl 0 rfl) ?_
        refine lv_lload_n hx hb dX5_tail_50 rfl (lv_at hl 3 rfl) ?_
        obtain ⟨r_10, h_11, hf⟩ := bind_some hf
        have hP_r_10 : va_P D vwCl [(hfo, .inr (1, [.int rw, .long rg, .long rs, .long re, .int ri, .int ro, .ref hfa, .ref hun]))] s.heap := hP.sub [2] rfl
        refine cz_l (va_runVN (As := [.long x2]) (rest := [.ref hfo]) ⟨hx, hb, hml, hown, hts⟩ (ctX1_registerOf l D cy N hfo hfa hun rw rg rs re ri ro x2 r_10 h_11) ⟨va_cnB 1 hts gX5_tail_X1_registerOf_n72 rfl rfl rfl (nwX5_72 hN) (hts _ mX5_tail_2) (by decide +kernel) ⟨Nat.le_of_ble_eq_true rfl, Nat.le_of_ble_eq_true rfl⟩, hts _ mX5_tail_3, hts _ mX5_tail_4⟩ (preV_rd (ci := 1) (q0 := 0) [.long x2] hP_r_10 hB rfl rfl) rfl rfl hl.1 rfl (lv_room (Nat.le_of_ble_eq_true rfl)) dX5_tail_51 ⟨Nat.zero_le _, Nat.zero_le _⟩) ?_
        refine lv_aload hx hb dX5_tail_54 (lv_at hl 0 rfl) ?_
        refine lv_lload hx hb dX5_tail_56 (lv_at hl 4 rfl) ?_
        obtain ⟨r_12, h_13, hf⟩ := bind_some hf
        have hP_r_12 : va_P D vwCl [(hfo, .inr (1, [.int rw, .long rg, .long rs, .long re, .int ri, .int ro, .ref hfa, .ref hun]))] s.heap := hP.sub [2] rfl
        refine cz_l (va_runVN (As := [.long x4]) (rest := [.long r_10, .ref hfo]) ⟨hx, hb, hml, hown, hts⟩ (ctX1_registerOf l D cy N hfo hfa hun rw rg rs re ri ro x4 r_12 h_13) ⟨va_cnB 1 hts gX5_tail_X1_registerOf_n72 rfl rfl rfl (nwX5_72 hN) (hts _ mX5_tail_2) (by decide +kernel) ⟨Nat.le_of_ble_eq_true rfl, Nat.le_of_ble_eq_true rfl⟩, hts _ mX5_tail_3, hts _ mX5_tail_4⟩ (preV_rd (ci := 1) (q0 := 0) [.long x4] hP_r_12 hB rfl rfl) rfl rfl hl.1 rfl (lv_room (Nat.le_of_ble_eq_true rfl)) dX5_tail_58 ⟨Nat.zero_le _, Nat.zero_le _⟩) ?_
        obtain ⟨r_14, h_15, hf⟩ := bind_some hf
        have hP_r_14 : va_P D vwCl [(hfo, .inr (1, [.int rw, .long rg, .long rs, .long re, .int ri, .int ro, .ref hfa, .ref hun]))] s.heap := hP.sub [2] rfl
        refine cz_l (va_runVN (As := [.long r_10, .long r_12]) (rest := []) ⟨hx, hb, hml, hown, hts⟩ (ctX1_octetsBetween l D cy N hfo hfa hun rw rg rs re ri ro r_10 r_12 r_14 h_15) ⟨va_cnB 2 hts gX5_tail_X1_octetsBetween_n82 rfl rfl rfl (nwX5_82 hN) (hts _ mX5_tail_2) (by decide +kernel) ⟨Nat.le_of_ble_eq_true rfl, Nat.le_of_ble_eq_true rfl⟩, hts _ mX5_tail_5, hts _ mX5_tail_6⟩ (preV_rd (ci := 1) (q0 := 0) [.long r_10, .long r_12] hP_r_14 hB rfl rfl) rfl rfl hl.1 rfl (lv_room (Nat.le_of_ble_eq_true rfl)) dX5_tail_61 ⟨Nat.zero_le _, Nat.zero_le _⟩) ?_
        exact W.lret (v := r_14) hx hb hr (fun t ht hW => ⟨_, rfl, Option.some.inj hf, ht⟩) (fun _ h => absurd h List.not_mem_nil) dX5_tail_64
      · have hf := ite_f hf c_8
        refine lv_ldc2 (v := (-1 : Int64)) hx hb hown (hts _ mX5_tail_0) dX5_tail_34 ?_
        exact W.lret (v := (-1 : Int64)) hx hb hr (fun t ht hW => ⟨_, rfl, Option.some.inj hf, ht⟩) (fun _ h => absurd h List.not_mem_nil) dX5_tail_37
/-! SumForms.zeros(IJJ)J -/
abbrev rX5_zeros : Room := { frames := 3, cells := 0, slots := 0, locals := 84 }
theorem mX5_zeros_0 : Cond.constantLong RX5 50 (-1) ∈ wsX5_zeros := by decide +kernel
theorem mX5_zeros_1 : Cond.fieldLink RX5 19 "SumForms" "forms" "[LSumForms$Form;" ∈ wsX5_zeros := by decide +kernel
theorem mX5_zeros_2 : Cond.initialized RX1 ∈ wsX5_zeros := by decide +kernel
theorem mX5_zeros_3 : Cond.instanceMethod yX1_registerOf ∈ wsX5_zeros := by decide +kernel
theorem mX5_zeros_4 : Cond.selects RX1 yX1_registerOf yX1_registerOf ∈ wsX5_zeros := by decide +kernel
theorem mX5_zeros_5 : Cond.instanceMethod yX1_movedByOctets ∈ wsX5_zeros := by decide +kernel
theorem mX5_zeros_6 : Cond.selects RX1 yX1_movedByOctets yX1_movedByOctets ∈ wsX5_zeros := by decide +kernel
theorem mX5_zeros_7 : Cond.instanceMethod yX1_sumOf ∈ wsX5_zeros := by decide +kernel
theorem mX5_zeros_8 : Cond.selects RX1 yX1_sumOf yX1_sumOf ∈ wsX5_zeros := by decide +kernel
theorem inX5_zeros_X5 : ∀ w ∈ u_ws RX5 TX5 5, w ∈ wsX5_zeros := by decide +kernel
abbrev GX5_zeros (p : Program) (l : Launch) (e : Env) (s : State) (m : MethodId) (args : Array Value) (below : List Frame) (meth : Method) (c : Code) (r0 : Int64) (fr : JFrame) : Prop := W p l e (headSpec wsX5_zeros rX5_zeros).room s m args below meth c s.heap [] 0 0 (MQ below (vp_Sl (fun r => r = r0)) args s 0 0 (fun _ => False)) fr
def fX5_zeros (N : Nat) (sC : Int32) (rw : Int32) (rg : Int64) (re : Int64) (ro : Int32) (x1 : Int32) (x2 : Int64) (x4 : Int64) : Option (Int64) := ((fX5_isSum N sC rw x1 x2).bind (fun r_1 => (if r_1 = 0 then (some (-1 : Int64)) else ((fX5_isLength N x4).bind (fun r_4 => (if r_4 = 0 then (some (-1 : Int64)) else (if OOB x1 8 then none else ((fX1_registerOf N rw re ro x2).bind (fun r_8 => ((fX1_movedByOctets N rw rg r_8 x4).bind (fun r_10 => ((fX1_sumOf N rw re ro r_10).bind (fun r_12 => (some r_12))))))))))))))
set_option maxHeartbeats 4000000 in
set_option maxRecDepth 100000 in
theorem ctX5_zeros (l : Launch) (D : va_G) (cy : Nat → ClassId) (N : Nat) (hsf hst hsq hre hfo hfa hun : Nat) (sN : Int32) (sC : Int32) (sQ : Nat → Option Nat) (rw : Int32) (rg : Int64) (rs : Int64) (re : Int64) (ri : Int32) (ro : Int32) (x1 : Int32) (x2 : Int64) (x4 : Int64) (r0 : Int64) (hQ : vp_in x1 8 → sQ x1.toNatClampNeg = some hfo) (hf : fX5_zeros N sC rw rg re ro x1 x2 x4 = some r0) : Met l yX5_zeros wsX5_zeros rX5_zeros (va_Pc [.ref hsf, .int x1, .long x2, .long x4] (Rd D cy [(hsf, .inr (4, [.ref hst, .int sN, .ref hsq, .int sC, .ref hre])), (hsq, .inl (cy 3, 8, .inr (.inr (.inr (.inr sQ))))), (hfo, .inr (1, [.int rw, .long rg, .long rs, .long re, .int ri, .int ro, .ref hfa, .ref hun]))])) (vp_Sl (fun r => r = r0)) 0 0 (fun _ => False) := by
  refine Met.ofW (cc := cX5_zeros) (maxL := 7) (ret := (some .long)) (by decide) rfl ?_
  intro p e s m args below meth c s₁ B hml hv
  obtain ⟨rfl, hP, hB⟩ := hv
  have hx := B.exec
  have hb := B.bytes
  have hr := B.returns
  have hts := atoms_spec (ws := wsX5_zeros) B.pre
  have hown : s.vm.findClass RX5 = some m.cls := findClass_of_methodNamed B.named
  have hlocks := B.notSynchronized
  have hK := hB.1
  have hN := hB.2
  have hl := lv_entry ([.ref hsf, .int x1, .long x2, .long x4]) (n := 7) (Nat.le_of_ble_eq_true rfl)
  rw [lg_entry_eq]
  generalize (lg_sl ([.ref hsf, .int x1, .long x2, .long x4]) ++ List.replicate (7 - (lg_sl ([.ref hsf, .int x1, .long x2, .long x4])).length) Slot.unset).toArray = ls at hl ⊢
  have hl : lv_has ls 7 [(0, .ref hsf), (1, .int x1), (2, .long x2), (4, .long x4)] := hl
  have E0 : En p m c cX5_zeros 7 s ([.ref hsf, .int x1, .long x2, .long x4] : List Value).toArray wsX5_zeros RX5 meth (some .long) D cy := ⟨⟨hx, hb, hml, hown, hts⟩, hr, hlocks, hB⟩
  unfold fX5_zeros at hf
  refine lv_aload_n hx hb dX5_zeros_0 rfl (lv_at hl 0 rfl) ?_
  refine lv_iload_n hx hb dX5_zeros_1 rfl (lv_at hl 1 rfl) ?_
  refine lv_lload_n hx hb dX5_zeros_2 rfl (lv_at hl 2 rfl) ?_
  obtain ⟨r_1, h_2, hf⟩ := bind_some hf
  have hP_r_1 : va_P D vwCl [(hsf, .inr (4, [.ref hst, .int sN, .ref hsq, .int sC, .ref hre])), (hsq, .inl (cy 3, 8, .inr (.inr (.inr (.inr sQ))))), (hfo, .inr (1, [.int rw, .long rg, .long rs, .long re, .int ri, .int ro, .ref hfa, .ref hun]))] s.heap := hP.sub [0, 1, 2] rfl
  refine cz_i (va_runV (As := [.int x1, .long x2]) (rest := []) ⟨hx, hb, hml, hown, hts⟩ (ctX5_isSum l D cy N hsf hst hsq hre hfo hfa hun sN sC sQ rw rg rs re ri ro x1 x2 r_1 hQ h_2) (cwV 2 hts gX5_zeros_X5_isSum rfl rfl rfl (by decide +kernel) ⟨Nat.le_of_ble_eq_true rfl, Nat.le_of_ble_eq_true rfl⟩) (preV_rd (ci := 4) (q0 := 0) [.int x1, .long x2] hP_r_1 hB rfl rfl) rfl rfl hl.1 rfl (lv_room (Nat.le_of_ble_eq_true rfl)) dX5_zeros_3 ⟨Nat.zero_le _, Nat.zero_le _⟩) ?_
  refine lv_if_eq (tgt := 17) hx hb dX5_zeros_6 (by decide) (fun c_3 => ?_) (fun c_3 => ?_)
  · have hf := ite_t hf c_3
    refine lv_ldc2 (v := (-1 : Int64)) hx hb hown (hts _ mX5_zeros_0) dX5_zeros_17 ?_
    exact W.lret (v := (-1 : Int64)) hx hb hr (fun t ht hW => ⟨_, rfl, Option.some.inj hf, ht⟩) (fun _ h => absurd h List.not_mem_nil) dX5_zeros_20
  · have hf := ite_f hf c_3
    refine lv_lload hx hb dX5_zeros_9 (lv_at hl 3 rfl) ?_
    obtain ⟨r_4, h_5, hf⟩ := bind_some hf
    have hP_r_4 : va_P D vwCl [] s.heap := hP.sub [] rfl
    refine cz_i (va_runS (As := [.long x4]) (rest := []) ⟨hx, hb, hml, hown, hts⟩ (ctX5_isLength l D cy N   x4 r_4 h_5) (va_cwS 1 hts gX5_zeros_X5_isLength rfl rfl rfl (by decide +kernel) ⟨Nat.le_of_ble_eq_true rfl, Nat.le_of_ble_eq_true rfl⟩) (preS_rd [.long x4] hP_r_4 hB) rfl rfl hl.1 rfl (lv_room (Nat.le_of_ble_eq_true rfl)) dX5_zeros_11 ⟨Nat.zero_le _, Nat.zero_le _⟩) ?_
    refine lv_if_ne (tgt := 21) hx hb dX5_zeros_14 (by decide) (fun c_6 => ?_) (fun c_6 => ?_)
    · have hf := ite_f hf c_6
      refine lv_aload_n hx hb dX5_zeros_21 rfl (lv_at hl 0 rfl) ?_
      refine va_get (D := D) (ci := 4) (v := .ref hsq) (C := RX5) (T := TX5) (N := 5) hx hb hts inX5_zeros_X5 hown hK hP 0 rfl rfl 2 (by decide) (hts _ mX5_zeros_1) (fun _ h9 => h9) rfl dX5_zeros_22 ?_
      refine lv_iload_n hx hb dX5_zeros_25 rfl (lv_at hl 1 rfl) ?_
      obtain ⟨b_7, hf⟩ := ite_n hf
      refine zz_aald hx hb hK hP 1 3 rfl rfl b_7 (hQ b_7) dX5_zeros_26 ?_
      refine lv_astore (lv' := [(6, .ref hfo), (0, .ref hsf), (1, .int x1), (2, .long x2), (4, .long x4)]) hx hb dX5_zeros_27 hl (by decide) rfl (fun ls hl => ?_)
      refine lv_aload hx hb dX5_zeros_29 (lv_at hl 0 rfl) ?_
      refine lv_aload hx hb dX5_zeros_31 (lv_at hl 0 rfl) ?_
      refine lv_aload hx hb dX5_zeros_33 (lv_at hl 0 rfl) ?_
      refine lv_lload_n hx hb dX5_zeros_35 rfl (lv_at hl 3 rfl) ?_
      obtain ⟨r_8, h_9, hf⟩ := bind_some hf
      have hP_r_8 : va_P D vwCl [(hfo, .inr (1, [.int rw, .long rg, .long rs, .long re, .int ri, .int ro, .ref hfa, .ref hun]))] s.heap := hP.sub [2] rfl
      refine cz_l (va_runVN (As := [.long x2]) (rest := [.ref hfo, .ref hfo]) ⟨hx, hb, hml, hown, hts⟩ (ctX1_registerOf l D cy N hfo hfa hun rw rg rs re ri ro x2 r_8 h_9) ⟨va_cnB 1 hts gX5_zeros_X1_registerOf_n72 rfl rfl rfl (nwX5_72 hN) (hts _ mX5_zeros_2) (by decide +kernel) ⟨Nat.le_of_ble_eq_true rfl, Nat.le_of_ble_eq_true rfl⟩, hts _ mX5_zeros_3, hts _ mX5_zeros_4⟩ (preV_rd (ci := 1) (q0 := 0) [.long x2] hP_r_8 hB rfl rfl) rfl rfl hl.1 rfl (lv_room (Nat.le_of_ble_eq_true rfl)) dX5_zeros_36 ⟨Nat.zero_le _, Nat.zero_le _⟩) ?_
      refine lv_lload hx hb dX5_zeros_39 (lv_at hl 4 rfl) ?_
      obtain ⟨r_10, h_11, hf⟩ := bind_some hf
      have hP_r_10 : va_P D vwCl [(hfo, .inr (1, [.int rw, .long rg, .long rs, .long re, .int ri, .int ro, .ref hfa, .ref hun]))] s.heap := hP.sub [2] rfl
      refine cz_l (va_runVN (As := [.long r_8, .long x4]) (rest := [.ref hfo]) ⟨hx, hb, hml, hown, hts⟩ (ctX1_movedByOctets l D cy N hfo hfa hun rw rg rs re ri ro r_8 x4 r_10 h_11) ⟨va_cnB 2 hts gX5_zeros_X1_movedByOctets_n75 rfl rfl rfl (nwX5_75 hN) (hts _ mX5_zeros_2) (by decide +kernel) ⟨Nat.le_of_ble_eq_true rfl, Nat.le_of_ble_eq_true rfl⟩, hts _ mX5_zeros_5, hts _ mX5_zeros_6⟩ (preV_rd (ci := 1) (q0 := 0) [.long r_8, .long x4] hP_r_10 hB rfl rfl) rfl rfl hl.1 rfl (lv_room (Nat.le_of_ble_eq_true rfl)) dX5_zeros_41 ⟨Nat.zero_le _, Nat.zero_le _⟩) ?_
      obtain ⟨r_12, h_13, hf⟩ := bind_some hf
      have hP_r_12 : va_P D vwCl [(hfo, .inr (1, [.int rw, .long rg, .long rs, .long re, .int ri, .int ro, .ref hfa, .ref hun]))] s.heap := hP.sub [2] rfl
      refine cz_l (va_runVN (As := [.long r_10]) (rest := []) ⟨hx, hb, hml, hown, hts⟩ (ctX1_sumOf l D cy N hfo hfa hun rw rg rs re ri ro r_10 r_12 h_13) ⟨va_cnB 1 hts gX5_zeros_X1_sumOf_n60 rfl rfl rfl (nwX5_60 hN) (hts _ mX5_zeros_2) (by decide +kernel) ⟨Nat.le_of_ble_eq_true rfl, Nat.le_of_ble_eq_true rfl⟩, hts _ mX5_zeros_7, hts _ mX5_zeros_8⟩ (preV_rd (ci := 1) (q0 := 0) [.long r_10] hP_r_12 hB rfl rfl) rfl rfl hl.1 rfl (lv_room (Nat.le_of_ble_eq_true rfl)) dX5_zeros_44 ⟨Nat.zero_le _, Nat.zero_le _⟩) ?_
      exact W.lret (v := r_12) hx hb hr (fun t ht hW => ⟨_, rfl, Option.some.inj hf, ht⟩) (fun _ h => absurd h List.not_mem_nil) dX5_zeros_47
    · have hf := ite_t hf c_6
      refine lv_ldc2 (v := (-1 : Int64)) hx hb hown (hts _ mX5_zeros_0) dX5_zeros_17 ?_
      exact W.lret (v := (-1 : Int64)) hx hb hr (fun t ht hW => ⟨_, rfl, Option.some.inj hf, ht⟩) (fun _ h => absurd h List.not_mem_nil) dX5_zeros_20

/-! SumForms.distance(II)I -/
abbrev rX5_distance : Room := { frames := 5, cells := 0, slots := 0, locals := 120 }
theorem mX5_distance_0 : Cond.fieldLink RX5 19 "SumForms" "forms" "[LSumForms$Form;" ∈ wsX5_distance := by decide +kernel
theorem mX5_distance_1 : Cond.fieldLink RX5 29 "SumForms" "remainders" "LSumForms$Remainders;" ∈ wsX5_distance := by decide +kernel
theorem mX5_distance_2 : Cond.initialized RX4 ∈ wsX5_distance := by decide +kernel
theorem mX5_distance_3 : Cond.instanceMethod yX4_findFor ∈ wsX5_distance := by decide +kernel
theorem mX5_distance_4 : Cond.selects RX4 yX4_findFor yX4_findFor ∈ wsX5_distance := by decide +kernel
theorem mX5_distance_5 : Cond.instanceMethod yX4_fewest ∈ wsX5_distance := by decide +kernel
theorem mX5_distance_6 : Cond.selects RX4 yX4_fewest yX4_fewest ∈ wsX5_distance := by decide +kernel
theorem inX5_distance_X1 : ∀ w ∈ u_ws RX1 TX1 8, w ∈ wsX5_distance := by decide +kernel
theorem inX5_distance_X5 : ∀ w ∈ u_ws RX5 TX5 5, w ∈ wsX5_distance := by decide +kernel
abbrev GX5_distance (p : Program) (l : Launch) (e : Env) (s : State) (m : MethodId) (args : Array Value) (below : List Frame) (meth : Method) (c : Code) (D : va_G) (cy : Nat → ClassId) (A : Nat → Prop) (hsf : Nat) (hst : Nat) (hsq : Nat) (hre : Nat) (hfo : Nat) (hfa : Nat) (hun : Nat) (hrr : Nat) (hrs : Nat) (sN : Int32) (sC : Int32) (sQ : Nat → Option Nat) (rw : Int32) (rg : Int64) (rs : Int64) (re : Int64) (ri : Int32) (ro : Int32) (r0 : Int32 × Int32 × Int32 × Int32 × Int64 × Int32 × (Nat → Int64) × (Nat → Int64)) (H : Heap) (locs : List Loc) (fr : JFrame) : Prop := W p l e (headSpec wsX5_distance rX5_distance).room s m args below meth c H locs 0 0 (MQ below (Qwi D A [(hsf, .inr (4, [.ref hst, .int sN, .ref hsq, .int sC, .ref hre])), (hsq, .inl (cy 3, 8, .inr (.inr (.inr (.inr sQ))))), (hfo, .inr (1, [.int rw, .long rg, .long rs, .long re, .int ri, .int ro, .ref hfa, .ref hun])), (hun, .inr (3, [.int r0.2.1, .int r0.2.2.1, .int r0.2.2.2.1, .long r0.2.2.2.2.1])), (hre, .inr (2, [.ref hrr, .ref hrs, .int r0.2.2.2.2.2.1])), (hrr, .inl (cy 1, 200, .inr (.inl r0.2.2.2.2.2.2.1))), (hrs, .inl (cy 1, 512, .inr (.inl r0.2.2.2.2.2.2.2)))] r0.1) args s 0 0 A) fr
def fX5_distance (N : Nat) (sC : Int32) (rg : Int64) (u2 : Int32) (u3 : Int32) (u4 : Int32) (uG : Int64) (eN : Int32) (eR : Nat → Int64) (eS : Nat → Int64) (x1 : Int32) (x2 : Int32) : Option (Int32 × Int32 × Int32 × Int32 × Int64 × Int32 × (Nat → Int64) × (Nat → Int64)) := ((fX5_isForm N sC x1).bind (fun r_1 => (if r_1 = 0 then (some ((-1 : Int32), u2, u3, u4, uG, eN, eR, eS)) else (if x2 < (1 : Int32) then (some ((-1 : Int32), u2, u3, u4, uG, eN, eR, eS)) else (if x2 ≤ (200 : Int32) then (if OOB x1 8 then none else ((fX4_findFor N u2 u3 u4 uG eN eR eS rg).bind (fun r_7 => ((fX4_fewest N r_7.1 r_7.2.1 r_7.2.2.1 x2).bind (fun r_11 => (some (r_11, r_7.1, r_7.2.1, r_7.2.2.1, r_7.2.2.2.1, r_7.2.2.2.2.1, r_7.2.2.2.2.2.1, r_7.2.2.2.2.2.2))))))) else (some ((-1 : Int32), u2, u3, u4, uG, eN, eR, eS)))))))
set_option maxHeartbeats 4000000 in
set_option maxRecDepth 100000 in
theorem ctX5_distance (l : Launch) (D : va_G) (cy : Nat → ClassId) (N : Nat) (hsf hst hsq hre hfo hfa hun hrr hrs : Nat) (sz : Nat) (sN : Int32) (sC : Int32) (sQ : Nat → Option Nat) (rw : Int32) (rg : Int64) (rs : Int64) (re : Int64) (ri : Int32) (ro : Int32) (u2 : Int32) (u3 : Int32) (u4 : Int32) (uG : Int64) (eN : Int32) (eR : Nat → Int64) (eS : Nat → Int64) (x1 : Int32) (x2 : Int32) (r0 : Int32 × Int32 × Int32 × Int32 × Int64 × Int32 × (Nat → Int64) × (Nat → Int64)) (hQ : vp_in x1 8 → sQ x1.toNatClampNeg = some hfo) (hf : fX5_distance N sC rg u2 u3 u4 uG eN eR eS x1 x2 = some r0) : Met l yX5_distance wsX5_distance rX5_distance (va_Pc [.ref hsf, .int x1, .int x2] (Wr D cy [(hsf, .inr (4, [.ref hst, .int sN, .ref hsq, .int sC, .ref hre])), (hsq, .inl (cy 3, 8, .inr (.inr (.inr (.inr sQ))))), (hfo, .inr (1, [.int rw, .long rg, .long rs, .long re, .int ri, .int ro, .ref hfa, .ref hun])), (hun, .inr (3, [.int u2, .int u3, .int u4, .long uG])), (hre, .inr (2, [.ref hrr, .ref hrs, .int eN])), (hrr, .inl (cy 1, 200, .inr (.inl eR))), (hrs, .inl (cy 1, 512, .inr (.inl eS)))] sz)) (Qwi D (va_A [(hsf, .inr (4, [.ref hst, .int sN, .ref hsq, .int sC, .ref hre])), (hsq, .inl (cy 3, 8, .inr (.inr (.inr (.inr sQ))))), (hfo, .inr (1, [.int rw, .long rg, .long rs, .long re, .int ri, .int ro, .ref hfa, .ref hun])), (hun, .inr (3, [.int u2, .int u3, .int u4, .long uG])), (hre, .inr (2, [.ref hrr, .ref hrs, .int eN])), (hrr, .inl (cy 1, 200, .inr (.inl eR))), (hrs, .inl (cy 1, 512, .inr (.inl eS)))] sz) [(hsf, .inr (4, [.ref hst, .int sN, .ref hsq, .int sC, .ref hre])), (hsq, .inl (cy 3, 8, .inr (.inr (.inr (.inr sQ))))), (hfo, .inr (1, [.int rw, .long rg, .long rs, .long re, .int ri, .int ro, .ref hfa, .ref hun])), (hun, .inr (3, [.int r0.2.1, .int r0.2.2.1, .int r0.2.2.2.1, .long r0.2.2.2.2.1])), (hre, .inr (2, [.ref hrr, .ref hrs, .int r0.2.2.2.2.2.1])), (hrr, .inl (cy 1, 200, .inr (.inl r0.2.2.2.2.2.2.1))), (hrs, .inl (cy 1, 512, .inr (.inl r0.2.2.2.2.2.2.2)))] r0.1) 0 0 (va_A [(hsf, .inr (4, [.ref hst, .int sN, .ref hsq, .int sC, .ref hre])), (hsq, .inl (cy 3, 8, .inr (.inr (.inr (.inr sQ))))), (hfo, .inr (1, [.int rw, .long rg, .long rs, .long re, .int ri, .int ro, .ref hfa, .ref hun])), (hun, .inr (3, [.int u2, .int u3, .int u4, .long uG])), (hre, .inr (2, [.ref hrr, .ref hrs, .int eN])), (hrr, .inl (cy 1, 200, .inr (.inl eR))), (hrs, .inl (cy 1, 512, .inr (.inl eS)))] sz) := by
  refine Met.ofW (cc := cX5_distance) (maxL := 4) (ret := (some .int)) (by decide) rfl ?_
  intro p e s m args below meth c s₁ B hml hv
  obtain ⟨rfl, hsz, hP, hD0, hB⟩ := hv
  have hx := B.exec
  have hb := B.bytes
  have hr := B.returns
  have hts := atoms_spec (ws := wsX5_distance) B.pre
  have hown : s.vm.findClass RX5 = some m.cls := findClass_of_methodNamed B.named
  have hlocks := B.notSynchronized
  have hK := hB.1
  have hN := hB.2
  subst hsz
  have hD := hD0.self (sz := s.heap.size)
  have hA : ∀ q : Nat, s.heap.size ≤ q → va_A [(hsf, .inr (4, [.ref hst, .int sN, .ref hsq, .int sC, .ref hre])), (hsq, .inl (cy 3, 8, .inr (.inr (.inr (.inr sQ))))), (hfo, .inr (1, [.int rw, .long rg, .long rs, .long re, .int ri, .int ro, .ref hfa, .ref hun])), (hun, .inr (3, [.int u2, .int u3, .int u4, .long uG])), (hre, .inr (2, [.ref hrr, .ref hrs, .int eN])), (hrr, .inl (cy 1, 200, .inr (.inl eR))), (hrs, .inl (cy 1, 512, .inr (.inl eS)))] s.heap.size q := fun q h => Or.inr h
  generalize va_A [(hsf, .inr (4, [.ref hst, .int sN, .ref hsq, .int sC, .ref hre])), (hsq, .inl (cy 3, 8, .inr (.inr (.inr (.inr sQ))))), (hfo, .inr (1, [.int rw, .long rg, .long rs, .long re, .int ri, .int ro, .ref hfa, .ref hun])), (hun, .inr (3, [.int u2, .int u3, .int u4, .long uG])), (hre, .inr (2, [.ref hrr, .ref hrs, .int eN])), (hrr, .inl (cy 1, 200, .inr (.inl eR))), (hrs, .inl (cy 1, 512, .inr (.inl eS)))] s.heap.size = A at hD hA ⊢
  have hS : va_S A s.heap s.heap [] := va_S.rf
  have hl := lv_entry ([.ref hsf, .int x1, .int x2]) (n := 4) (Nat.le_of_ble_eq_true rfl)
  rw [lg_entry_eq]
  generalize (lg_sl ([.ref hsf, .int x1, .int x2]) ++ List.replicate (4 - (lg_sl ([.ref hsf, .int x1, .int x2])).length) Slot.unset).toArray = ls at hl ⊢
  have hl : lv_has ls 4 [(0, .ref hsf), (1, .int x1), (2, .int x2)] := hl
  have E0 : En p m c cX5_distance 4 s ([.ref hsf, .int x1, .int x2] : List Value).toArray wsX5_distance RX5 meth (some .int) D cy := ⟨⟨hx, hb, hml, hown, hts⟩, hr, hlocks, hB⟩
  unfold fX5_distance at hf
  refine lv_aload_n hx hb dX5_distance_0 rfl (lv_at hl 0 rfl) ?_
  refine lv_iload_n hx hb dX5_distance_1 rfl (lv_at hl 1 rfl) ?_
  obtain ⟨r_1, h_2, hf⟩ := bind_some hf
  have hP_r_1 : va_P D vwCl [(hsf, .inr (4, [.ref hst, .int sN, .ref hsq, .int sC, .ref hre]))] s.heap := hP.sub [0] rfl
  refine cz_i (va_runV (As := [.int x1]) (rest := []) ⟨hx, hb, hml, hown, hts⟩ (ctX5_isForm l D cy N hsf hst hsq hre sN sC x1 r_1 h_2) (cwV 1 hts gX5_distance_X5_isForm rfl rfl rfl (by decide +kernel) ⟨Nat.le_of_ble_eq_true rfl, Nat.le_of_ble_eq_true rfl⟩) (preV_rd (ci := 4) (q0 := 0) [.int x1] hP_r_1 hB rfl rfl) rfl rfl hl.1 rfl (lv_room (Nat.le_of_ble_eq_true rfl)) dX5_distance_2 ⟨Nat.zero_le _, Nat.zero_le _⟩) ?_
  refine lv_if_eq (tgt := 20) hx hb dX5_distance_5 (by decide) (fun c_3 => ?_) (fun c_3 => ?_)
  · have hf := ite_t hf c_3
    refine lv_iconst (v := (-1 : Int32)) hx hb dX5_distance_20 (by decide) ?_
    cases hf
    exact W.iret (v := (-1 : Int32)) hx hb hr (fun t ht hW => ⟨⟨_, (), rfl, rfl, by rw [ht]; exact hP, hD⟩, hS.F ht⟩) hS.2.2 dX5_distance_21
  · have hf := ite_f hf c_3
    refine lv_iload_n hx hb dX5_distance_8 rfl (lv_at hl 2 rfl) ?_
    refine lv_iconst (v := (1 : Int32)) hx hb dX5_distance_9 (by decide) ?_
    refine lv_icmp_lt (tgt := 20) hx hb dX5_distance_10 (by decide) (fun c_4 => ?_) (fun c_4 => ?_)
    · have hf := ite_t hf c_4
      refine lv_iconst (v := (-1 : Int32)) hx hb dX5_distance_20 (by decide) ?_
      cases hf
      exact W.iret (v := (-1 : Int32)) hx hb hr (fun t ht hW => ⟨⟨_, (), rfl, rfl, by rw [ht]; exact hP, hD⟩, hS.F ht⟩) hS.2.2 dX5_distance_21
    · have hf := ite_f hf c_4
      refine lv_iload_n hx hb dX5_distance_13 rfl (lv_at hl 2 rfl) ?_
      refine lv_sipush (v := (200 : Int32)) hx hb dX5_distance_14 (by decide) ?_
      refine lv_icmp_le (tgt := 22) hx hb dX5_distance_17 (by decide) (fun c_5 => ?_) (fun c_5 => ?_)
      · have hf := ite_t hf c_5
        refine lv_aload_n hx hb dX5_distance_22 rfl (lv_at hl 0 rfl) ?_
        refine va_get (D := D) (ci := 4) (v := .ref hsq) (C := RX5) (T := TX5) (N := 5) hx hb hts inX5_distance_X5 hown hK hP 0 rfl rfl 2 (by decide) (hts _ mX5_distance_0) (fun _ h9 => h9) rfl dX5_distance_23 ?_
        refine lv_iload_n hx hb dX5_distance_26 rfl (lv_at hl 1 rfl) ?_
        obtain ⟨b_6, hf⟩ := ite_n hf
        refine zz_aald hx hb hK hP 1 3 rfl rfl b_6 (hQ b_6) dX5_distance_27 ?_
        refine lv_astore_n (lv' := [(3, .ref hfo), (0, .ref hsf), (1, .int x1), (2, .int x2)]) hx hb dX5_distance_28 rfl hl (by decide) rfl (fun ls hl => ?_)
        refine lv_aload_n hx hb dX5_distance_29 rfl (lv_at hl 0 rfl) ?_
        refine va_getN (D := D) (ci := 1) (v := .ref hun) (C := RX1) (T := TX1) (N := 8) hx hb hts inX5_distance_X1 hown hK hP 2 rfl rfl 7 (by decide) (va_Nw.use rfl (nwX5_112 hN)) (fun _ h9 => h9) rfl dX5_distance_30 ?_
        refine lv_aload_n hx hb dX5_distance_33 rfl (lv_at hl 0 rfl) ?_
        refine va_getN (D := D) (ci := 1) (v := .long rg) (C := RX1) (T := TX1) (N := 8) hx hb hts inX5_distance_X1 hown hK hP 2 rfl rfl 1 (by decide) (va_Nw.use rfl (nwX5_89 hN)) (fun _ h9 => h9) rfl dX5_distance_34 ?_
        refine lv_aload_n hx hb dX5_distance_37 rfl (lv_at hl 1 rfl) ?_
        refine va_get (D := D) (ci := 4) (v := .ref hre) (C := RX5) (T := TX5) (N := 5) hx hb hts inX5_distance_X5 hown hK hP 0 rfl rfl 4 (by decide) (hts _ mX5_distance_1) (fun _ h9 => h9) rfl dX5_distance_38 ?_
        obtain ⟨r_7, h_8, hf⟩ := bind_some hf
        have hP_r_7 : va_P D vwCl [(hun, .inr (3, [.int u2, .int u3, .int u4, .long uG])), (hre, .inr (2, [.ref hrr, .ref hrs, .int eN])), (hrr, .inl (cy 1, 200, .inr (.inl eR))), (hrs, .inl (cy 1, 512, .inr (.inl eS)))] s.heap := hP.sub [3, 4, 5, 6] rfl
        have hD_r_7 : va_D A [(hun, .inr (3, [.int u2, .int u3, .int u4, .long uG])), (hre, .inr (2, [.ref hrr, .ref hrs, .int eN])), (hrr, .inl (cy 1, 200, .inr (.inl eR))), (hrs, .inl (cy 1, 512, .inr (.inl eS)))] := hD.sub [3, 4, 5, 6] (by decide) rfl
        refine cj_v (wc := [(hun, .inr (3, [.int u2, .int u3, .int u4, .long uG])), (hre, .inr (2, [.ref hrr, .ref hrs, .int eN])), (hrr, .inl (cy 1, 200, .inr (.inl eR))), (hrs, .inl (cy 1, 512, .inr (.inl eS)))]) (wr := [(hsf, .inr (4, [.ref hst, .int sN, .ref hsq, .int sC, .ref hre])), (hsq, .inl (cy 3, 8, .inr (.inr (.inr (.inr sQ))))), (hfo, .inr (1, [.int rw, .long rg, .long rs, .long re, .int ri, .int ro, .ref hfa, .ref hun]))]) (w1 := [(hun, .inr (3, [.int r_7.1, .int r_7.2.1, .int r_7.2.2.1, .long r_7.2.2.2.1])), (hre, .inr (2, [.ref hrr, .ref hrs, .int r_7.2.2.2.2.1])), (hrr, .inl (cy 1, 200, .inr (.inl r_7.2.2.2.2.2.1))), (hrs, .inl (cy 1, 512, .inr (.inl r_7.2.2.2.2.2.2)))]) [3, 4, 5, 6] [0, 1, 2] (va_runVN (As := [.long rg, .ref hre]) (rest := []) ⟨hx, hb, hml, hown, hts⟩ (ctX4_findFor l D cy N hun hre hrr hrs s.heap.size u2 u3 u4 uG eN eR eS rg r_7 h_8) ⟨va_cnB 2 hts gX5_distance_X4_findFor_n116 rfl rfl rfl (nwX5_116 hN) (hts _ mX5_distance_2) (by decide +kernel) ⟨Nat.le_of_ble_eq_true rfl, Nat.le_of_ble_eq_true rfl⟩, hts _ mX5_distance_3, hts _ mX5_distance_4⟩ (preV_wr (ci := 3) (q0 := 0) [.long rg, .ref hre] hP_r_7 hD_r_7 hB rfl rfl) rfl rfl hl.1 rfl (lv_room (Nat.le_of_ble_eq_true rfl)) dX5_distance_41 ⟨Nat.zero_le _, Nat.zero_le _⟩) hP hD hS hA rfl rfl (by decide) (by decide) (fun H9 locs10 hP hD hS => ?_)
        have hP : va_P D vwCl [(hsf, .inr (4, [.ref hst, .int sN, .ref hsq, .int sC, .ref hre])), (hsq, .inl (cy 3, 8, .inr (.inr (.inr (.inr sQ))))), (hfo, .inr (1, [.int rw, .long rg, .long rs, .long re, .int ri, .int ro, .ref hfa, .ref hun])), (hun, .inr (3, [.int r_7.1, .int r_7.2.1, .int r_7.2.2.1, .long r_7.2.2.2.1])), (hre, .inr (2, [.ref hrr, .ref hrs, .int r_7.2.2.2.2.1])), (hrr, .inl (cy 1, 200, .inr (.inl r_7.2.2.2.2.2.1))), (hrs, .inl (cy 1, 512, .inr (.inl r_7.2.2.2.2.2.2)))] H9 := hP.sub [0, 1, 2, 3, 4, 5, 6] rfl
        have hD : va_D A [(hsf, .inr (4, [.ref hst, .int sN, .ref hsq, .int sC, .ref hre])), (hsq, .inl (cy 3, 8, .inr (.inr (.inr (.inr sQ))))), (hfo, .inr (1, [.int rw, .long rg, .long rs, .long re, .int ri, .int ro, .ref hfa, .ref hun])), (hun, .inr (3, [.int r_7.1, .int r_7.2.1, .int r_7.2.2.1, .long r_7.2.2.2.1])), (hre, .inr (2, [.ref hrr, .ref hrs, .int r_7.2.2.2.2.1])), (hrr, .inl (cy 1, 200, .inr (.inl r_7.2.2.2.2.2.1))), (hrs, .inl (cy 1, 512, .inr (.inl r_7.2.2.2.2.2.2)))] := hD.sub [0, 1, 2, 3, 4, 5, 6] (by decide) rfl
        refine lv_aload_n hx hb dX5_distance_44 rfl (lv_at hl 0 rfl) ?_
        refine va_getN (D := D) (ci := 1) (v := .ref hun) (C := RX1) (T := TX1) (N := 8) hx hb hts inX5_distance_X1 hown hK hP 2 rfl rfl 7 (by decide) (va_Nw.use rfl (nwX5_112 hN)) (fun _ h9 => h9) rfl dX5_distance_45 ?_
        refine lv_iload_n hx hb dX5_distance_48 rfl (lv_at hl 3 rfl) ?_
        obtain ⟨r_11, h_12, hf⟩ := bind_some hf
        have hP_r_11 : va_P D vwCl [(hun, .inr (3, [.int r_7.1, .int r_7.2.1, .int r_7.2.2.1, .long r_7.2.2.2.1]))] H9 := hP.sub [3] rfl
        refine cz_i (va_runVN (As := [.int x2]) (rest := []) ⟨hx, hb, hml, hown, hts⟩ (ctX4_fewest l D cy N hun r_7.1 r_7.2.1 r_7.2.2.1 r_7.2.2.2.1 x2 r_11 h_12) ⟨va_cnB 1 hts gX5_distance_X4_fewest_n121 rfl rfl rfl (nwX5_121 hN) (hts _ mX5_distance_2) (by decide +kernel) ⟨Nat.le_of_ble_eq_true rfl, Nat.le_of_ble_eq_true rfl⟩, hts _ mX5_distance_5, hts _ mX5_distance_6⟩ (preV_rd (ci := 3) (q0 := 0) [.int x2] hP_r_11 hB rfl rfl) rfl rfl hl.1 rfl (lv_room (Nat.le_of_ble_eq_true rfl)) dX5_distance_49 ⟨Nat.zero_le _, Nat.zero_le _⟩) ?_
        cases hf
        exact W.iret (v := r_11) hx hb hr (fun t ht hW => ⟨⟨_, (), rfl, rfl, by rw [ht]; exact hP, hD⟩, hS.F ht⟩) hS.2.2 dX5_distance_52
      · have hf := ite_f hf c_5
        refine lv_iconst (v := (-1 : Int32)) hx hb dX5_distance_20 (by decide) ?_
        cases hf
        exact W.iret (v := (-1 : Int32)) hx hb hr (fun t ht hW => ⟨⟨_, (), rfl, rfl, by rw [ht]; exact hP, hD⟩, hS.F ht⟩) hS.2.2 dX5_distance_21
/-! SumForms.factor(III)J -/
abbrev rX5_factor : Room := { frames := 6, cells := 0, slots := 0, locals := 169 }
theorem mX5_factor_0 : Cond.constantLong RX5 50 (-1) ∈ wsX5_factor := by decide +kernel
theorem mX5_factor_1 : Cond.fieldLink RX5 19 "SumForms" "forms" "[LSumForms$Form;" ∈ wsX5_factor := by decide +kernel
theorem mX5_factor_2 : Cond.initialized RX0 ∈ wsX5_factor := by decide +kernel
theorem mX5_factor_3 : Cond.instanceMethod yX0_findFor ∈ wsX5_factor := by decide +kernel
theorem mX5_factor_4 : Cond.selects RX0 yX0_findFor yX0_findFor ∈ wsX5_factor := by decide +kernel
theorem inX5_factor_X0 : ∀ w ∈ u_ws RX0 TX0 5, w ∈ wsX5_factor := by decide +kernel
theorem inX5_factor_X1 : ∀ w ∈ u_ws RX1 TX1 8, w ∈ wsX5_factor := by decide +kernel
theorem inX5_factor_X5 : ∀ w ∈ u_ws RX5 TX5 5, w ∈ wsX5_factor := by decide +kernel
abbrev GX5_factor (p : Program) (l : Launch) (e : Env) (s : State) (m : MethodId) (args : Array Value) (below : List Frame) (meth : Method) (c : Code) (D : va_G) (cy : Nat → ClassId) (A : Nat → Prop) (hsf : Nat) (hst : Nat) (hsq : Nat) (hre : Nat) (hfo : Nat) (hfa : Nat) (hun : Nat) (hfp : Nat) (hft : Nat) (sN : Int32) (sC : Int32) (sQ : Nat → Option Nat) (rw : Int32) (rg : Int64) (rs : Int64) (re : Int64) (ri : Int32) (ro : Int32) (r0 : Int64 × Int32 × Int64 × Int64 × (Nat → Int64) × (Nat → Int32)) (H : Heap) (locs : List Loc) (fr : JFrame) : Prop := W p l e (headSpec wsX5_factor rX5_factor).room s m args below meth c H locs 0 0 (MQ below (Qwl D A [(hsf, .inr (4, [.ref hst, .int sN, .ref hsq, .int sC, .ref hre])), (hsq, .inl (cy 3, 8, .inr (.inr (.inr (.inr sQ))))), (hfo, .inr (1, [.int rw, .long rg, .long rs, .long re, .int ri, .int ro, .ref hfa, .ref hun])), (hfa, .inr (0, [.ref hfp, .ref hft, .int r0.2.1, .long r0.2.2.1, .long r0.2.2.2.1])), (hfp, .inl (cy 1, 9, .inr (.inl r0.2.2.2.2.1))), (hft, .inl (cy 0, 9, .inl r0.2.2.2.2.2))] r0.1) args s 0 0 A) fr
def fX5_factor (N : Nat) (sC : Int32) (rg : Int64) (fN : Int32) (fO : Int64) (fG : Int64) (fP : Nat → Int64) (fT : Nat → Int32) (x1 : Int32) (x2 : Int32) (x3 : Int32) : Option (Int64 × Int32 × Int64 × Int64 × (Nat → Int64) × (Nat → Int32)) := ((fX5_isForm N sC x1).bind (fun r_1 => (if r_1 = 0 then (some ((-1 : Int64), fN, fO, fG, fP, fT)) else (if x2 < 0 then (some ((-1 : Int64), fN, fO, fG, fP, fT)) else (if x3 < 0 then (some ((-1 : Int64), fN, fO, fG, fP, fT)) else (if x3 ≤ (1 : Int32) then (if OOB x1 8 then none else ((fX0_findFor N fN fO fG fP fT rg).bind (fun r_8 => (if x2 < r_8.1 then (if x3 = 0 then (if OOB x2 9 then none else (some ((r_8.2.2.2.1 x2.toNatClampNeg), r_8.1, r_8.2.1, r_8.2.2.1, r_8.2.2.2.1, r_8.2.2.2.2))) else (if OOB x2 9 then none else (some ((r_8.2.2.2.2 x2.toNatClampNeg).toInt64, r_8.1, r_8.2.1, r_8.2.2.1, r_8.2.2.2.1, r_8.2.2.2.2)))) else (some ((-1 : Int64), r_8.1, r_8.2.1, r_8.2.2.1, r_8.2.2.2.1, r_8.2.2.2.2)))))) else (some ((-1 : Int64), fN, fO, fG, fP, fT))))))))
set_option maxHeartbeats 4000000 in
set_option maxRecDepth 100000 in
theorem ctX5_factor (l : Launch) (D : va_G) (cy : Nat → ClassId) (N : Nat) (hsf hst hsq hre hfo hfa hun hfp hft : Nat) (sz : Nat) (sN : Int32) (sC : Int32) (sQ : Nat → Option Nat) (rw : Int32) (rg : Int64) (rs : Int64) (re : Int64) (ri : Int32) (ro : Int32) (fN : Int32) (fO : Int64) (fG : Int64) (fP : Nat → Int64) (fT : Nat → Int32) (x1 : Int32) (x2 : Int32) (x3 : Int32) (r0 : Int64 × Int32 × Int64 × Int64 × (Nat → Int64) × (Nat → Int32)) (hQ : vp_in x1 8 → sQ x1.toNatClampNeg = some hfo) (hf : fX5_factor N sC rg fN fO fG fP fT x1 x2 x3 = some r0) : Met l yX5_factor wsX5_factor rX5_factor (va_Pc [.ref hsf, .int x1, .int x2, .int x3] (Wr D cy [(hsf, .inr (4, [.ref hst, .int sN, .ref hsq, .int sC, .ref hre])), (hsq, .inl (cy 3, 8, .inr (.inr (.inr (.inr sQ))))), (hfo, .inr (1, [.int rw, .long rg, .long rs, .long re, .int ri, .int ro, .ref hfa, .ref hun])), (hfa, .inr (0, [.ref hfp, .ref hft, .int fN, .long fO, .long fG])), (hfp, .inl (cy 1, 9, .inr (.inl fP))), (hft, .inl (cy 0, 9, .inl fT))] sz)) (Qwl D (va_A [(hsf, .inr (4, [.ref hst, .int sN, .ref hsq, .int sC, .ref hre])), (hsq, .inl (cy 3, 8, .inr (.inr (.inr (.inr sQ))))), (hfo, .inr (1, [.int rw, .long rg, .long rs, .long re, .int ri, .int ro, .ref hfa, .ref hun])), (hfa, .inr (0, [.ref hfp, .ref hft, .int fN, .long fO, .long fG])), (hfp, .inl (cy 1, 9, .inr (.inl fP))), (hft, .inl (cy 0, 9, .inl fT))] sz) [(hsf, .inr (4, [.ref hst, .int sN, .ref hsq, .int sC, .ref hre])), (hsq, .inl (cy 3, 8, .inr (.inr (.inr (.inr sQ))))), (hfo, .inr (1, [.int rw, .long rg, .long rs, .long re, .int ri, .int ro, .ref hfa, .ref hun])), (hfa, .inr (0, [.ref hfp, .ref hft, .int r0.2.1, .long r0.2.2.1, .long r0.2.2.2.1])), (hfp, .inl (cy 1, 9, .inr (.inl r0.2.2.2.2.1))), (hft, .inl (cy 0, 9, .inl r0.2.2.2.2.2))] r0.1) 0 0 (va_A [(hsf, .inr (4, [.ref hst, .int sN, .ref hsq, .int sC, .ref hre])), (hsq, .inl (cy 3, 8, .inr (.inr (.inr (.inr sQ))))), (hfo, .inr (1, [.int rw, .long rg, .long rs, .long re, .int ri, .int ro, .ref hfa, .ref hun])), (hfa, .inr (0, [.ref hfp, .ref hft, .int fN, .long fO, .long fG])), (hfp, .inl (cy 1, 9, .inr (.inl fP))), (hft, .inl (cy 0, 9, .inl fT))] sz) := by
  refine Met.ofW (cc := cX5_factor) (maxL := 5) (ret := (some .long)) (by decide) rfl ?_
  intro p e s m args below meth c s₁ B hml hv
  obtain ⟨rfl, hsz, hP, hD0, hB⟩ := hv
  have hx := B.exec
  have hb := B.bytes
  have hr := B.returns
  have hts := atoms_spec (ws := wsX5_factor) B.pre
  have hown : s.vm.findClass RX5 = some m.cls := findClass_of_methodNamed B.named
  have hlocks := B.notSynchronized
  have hK := hB.1
  have hN := hB.2
  subst hsz
  have hD := hD0.self (sz := s.heap.size)
  have hA : ∀ q : Nat, s.heap.size ≤ q → va_A [(hsf, .inr (4, [.ref hst, .int sN, .ref hsq, .int sC, .ref hre])), (hsq, .inl (cy 3, 8, .inr (.inr (.inr (.inr sQ))))), (hfo, .inr (1, [.int rw, .long rg, .long rs, .long re, .int ri, .int ro, .ref hfa, .ref hun])), (hfa, .inr (0, [.ref hfp, .ref hft, .int fN, .long fO, .long fG])), (hfp, .inl (cy 1, 9, .inr (.inl fP))), (hft, .inl (cy 0, 9, .inl fT))] s.heap.size q := fun q h => Or.inr h
  generalize va_A [(hsf, .inr (4, [.ref hst, .int sN, .ref hsq, .int sC, .ref hre])), (hsq, .inl (cy 3, 8, .inr (.inr (.inr (.inr sQ))))), (hfo, .inr (1, [.int rw, .long rg, .long rs, .long re, .int ri, .int ro, .ref hfa, .ref hun])), (hfa, .inr (0, [.ref hfp, .ref hft, .int fN, .long fO, .long fG])), (hfp, .inl (cy 1, 9, .inr (.inl fP))), (hft, .inl (cy 0, 9, .inl fT))] s.heap.size = A at hD hA ⊢
  have hS : va_S A s.heap s.heap [] := va_S.rf
  have hl := lv_entry ([.ref hsf, .int x1, .int x2, .int x3]) (n := 5) (Nat.le_of_ble_eq_true rfl)
  rw [lg_entry_eq]
  generalize (lg_sl ([.ref hsf, .int x1, .int x2, .int x3]) ++ List.replicate (5 - (lg_sl ([.ref hsf, .int x1, .int x2, .int x3])).length) Slot.unset).toArray = ls at hl ⊢
  have hl : lv_has ls 5 [(0, .ref hsf), (1, .int x1), (2, .int x2), (3, .int x3)] := hl
  have E0 : En p m c cX5_factor 5 s ([.ref hsf, .int x1, .int x2, .int x3] : List Value).toArray wsX5_factor RX5 meth (some .long) D cy := ⟨⟨hx, hb, hml, hown, hts⟩, hr, hlocks, hB⟩
  unfold fX5_factor at hf
  refine lv_aload_n hx hb dX5_factor_0 rfl (lv_at hl 0 rfl) ?_
  refine lv_iload_n hx hb dX5_factor_1 rfl (lv_at hl 1 rfl) ?_
  obtain ⟨r_1, h_2, hf⟩ := bind_some hf
  have hP_r_1 : va_P D vwCl [(hsf, .inr (4, [.ref hst, .int sN, .ref hsq, .int sC, .ref hre]))] s.heap := hP.sub [0] rfl
  refine cz_i (va_runV (As := [.int x1]) (rest := []) ⟨hx, hb, hml, hown, hts⟩ (ctX5_isForm l D cy N hsf hst hsq hre sN sC x1 r_1 h_2) (cwV 1 hts gX5_factor_X5_isForm rfl rfl rfl (by decide +kernel) ⟨Nat.le_of_ble_eq_true rfl, Nat.le_of_ble_eq_true rfl⟩) (preV_rd (ci := 4) (q0 := 0) [.int x1] hP_r_1 hB rfl rfl) rfl rfl hl.1 rfl (lv_room (Nat.le_of_ble_eq_true rfl)) dX5_factor_2 ⟨Nat.zero_le _, Nat.zero_le _⟩) ?_
  refine lv_if_eq (tgt := 21) hx hb dX5_factor_5 (by decide) (fun c_3 => ?_) (fun c_3 => ?_)
  · have hf := ite_t hf c_3
    refine lv_ldc2 (v := (-1 : Int64)) hx hb hown (hts _ mX5_factor_0) dX5_factor_21 ?_
    cases hf
    exact W.lret (v := (-1 : Int64)) hx hb hr (fun t ht hW => ⟨⟨_, (), rfl, rfl, by rw [ht]; exact hP, hD⟩, hS.F ht⟩) hS.2.2 dX5_factor_24
  · have hf := ite_f hf c_3
    refine lv_iload_n hx hb dX5_factor_8 rfl (lv_at hl 2 rfl) ?_
    refine lv_if_lt (tgt := 21) hx hb dX5_factor_9 (by decide) (fun c_4 => ?_) (fun c_4 => ?_)
    · have hf := ite_t hf c_4
      refine lv_ldc2 (v := (-1 : Int64)) hx hb hown (hts _ mX5_factor_0) dX5_factor_21 ?_
      cases hf
      exact W.lret (v := (-1 : Int64)) hx hb hr (fun t ht hW => ⟨⟨_, (), rfl, rfl, by rw [ht]; exact hP, hD⟩, hS.F ht⟩) hS.2.2 dX5_factor_24
    · have hf := ite_f hf c_4
      refine lv_iload_n hx hb dX5_factor_12 rfl (lv_at hl 3 rfl) ?_
      refine lv_if_lt (tgt := 21) hx hb dX5_factor_13 (by decide) (fun c_5 => ?_) (fun c_5 => ?_)
      · have hf := ite_t hf c_5
        refine lv_ldc2 (v := (-1 : Int64)) hx hb hown (hts _ mX5_factor_0) dX5_factor_21 ?_
        cases hf
        exact W.lret (v := (-1 : Int64)) hx hb hr (fun t ht hW => ⟨⟨_, (), rfl, rfl, by rw [ht]; exact hP, hD⟩, hS.F ht⟩) hS.2.2 dX5_factor_24
      · have hf := ite_f hf c_5
        refine lv_iload_n hx hb dX5_factor_16 rfl (lv_at hl 3 rfl) ?_
        refine lv_iconst (v := (1 : Int32)) hx hb dX5_factor_17 (by decide) ?_
        refine lv_icmp_le (tgt := 25) hx hb dX5_factor_18 (by decide) (fun c_6 => ?_) (fun c_6 => ?_)
        · have hf := ite_t hf c_6
          refine lv_aload_n hx hb dX5_factor_25 rfl (lv_at hl 0 rfl) ?_
          refine va_get (D := D) (ci := 4) (v := .ref hsq) (C := RX5) (T := TX5) (N := 5) hx hb hts inX5_factor_X5 hown hK hP 0 rfl rfl 2 (by decide) (hts _ mX5_factor_1) (fun _ h9 => h9) rfl dX5_factor_26 ?_
          refine lv_iload_n hx hb dX5_factor_29 rfl (lv_at hl 1 rfl) ?_
          obtain ⟨b_7, hf⟩ := ite_n hf
          refine zz_aald hx hb hK hP 1 3 rfl rfl b_7 (hQ b_7) dX5_factor_30 ?_
          refine lv_astore (lv' := [(4, .ref hfo), (0, .ref hsf), (1, .int x1), (2, .int x2), (3, .int x3)]) hx hb dX5_factor_31 hl (by decide) rfl (fun ls hl => ?_)
          refine lv_aload hx hb dX5_factor_33 (lv_at hl 0 rfl) ?_
          refine va_getN (D := D) (ci := 1) (v := .ref hfa) (C := RX1) (T := TX1) (N := 8) hx hb hts inX5_factor_X1 hown hK hP 2 rfl rfl 6 (by decide) (va_Nw.use rfl (nwX5_85 hN)) (fun _ h9 => h9) rfl dX5_factor_35 ?_
          refine lv_aload hx hb dX5_factor_38 (lv_at hl 0 rfl) ?_
          refine va_getN (D := D) (ci := 1) (v := .long rg) (C := RX1) (T := TX1) (N := 8) hx hb hts inX5_factor_X1 hown hK hP 2 rfl rfl 1 (by decide) (va_Nw.use rfl (nwX5_89 hN)) (fun _ h9 => h9) rfl dX5_factor_40 ?_
          obtain ⟨r_8, h_9, hf⟩ := bind_some hf
          have hP_r_8 : va_P D vwCl [(hfa, .inr (0, [.ref hfp, .ref hft, .int fN, .long fO, .long fG])), (hfp, .inl (cy 1, 9, .inr (.inl fP))), (hft, .inl (cy 0, 9, .inl fT))] s.heap := hP.sub [3, 4, 5] rfl
          have hD_r_8 : va_D A [(hfa, .inr (0, [.ref hfp, .ref hft, .int fN, .long fO, .long fG])), (hfp, .inl (cy 1, 9, .inr (.inl fP))), (hft, .inl (cy 0, 9, .inl fT))] := hD.sub [3, 4, 5] (by decide) rfl
          refine cj_v (wc := [(hfa, .inr (0, [.ref hfp, .ref hft, .int fN, .long fO, .long fG])), (hfp, .inl (cy 1, 9, .inr (.inl fP))), (hft, .inl (cy 0, 9, .inl fT))]) (wr := [(hsf, .inr (4, [.ref hst, .int sN, .ref hsq, .int sC, .ref hre])), (hsq, .inl (cy 3, 8, .inr (.inr (.inr (.inr sQ))))), (hfo, .inr (1, [.int rw, .long rg, .long rs, .long re, .int ri, .int ro, .ref hfa, .ref hun]))]) (w1 := [(hfa, .inr (0, [.ref hfp, .ref hft, .int r_8.1, .long r_8.2.1, .long r_8.2.2.1])), (hfp, .inl (cy 1, 9, .inr (.inl r_8.2.2.2.1))), (hft, .inl (cy 0, 9, .inl r_8.2.2.2.2))]) [3, 4, 5] [0, 1, 2] (va_runVN (As := [.long rg]) (rest := []) ⟨hx, hb, hml, hown, hts⟩ (ctX0_findFor l D cy N hfa hfp hft s.heap.size fN fO fG fP fT rg r_8 h_9) ⟨va_cnB 1 hts gX5_factor_X0_findFor_n92 rfl rfl rfl (nwX5_92 hN) (hts _ mX5_factor_2) (by decide +kernel) ⟨Nat.le_of_ble_eq_true rfl, Nat.le_of_ble_eq_true rfl⟩, hts _ mX5_factor_3, hts _ mX5_factor_4⟩ (preV_wr (ci := 0) (q0 := 0) [.long rg] hP_r_8 hD_r_8 hB rfl rfl) rfl rfl hl.1 rfl (lv_room (Nat.le_of_ble_eq_true rfl)) dX5_factor_43 ⟨Nat.zero_le _, Nat.zero_le _⟩) hP hD hS hA rfl rfl (by decide) (by decide) (fun H10 locs11 hP hD hS => ?_)
          have hP : va_P D vwCl [(hsf, .inr (4, [.ref hst, .int sN, .ref hsq, .int sC, .ref hre])), (hsq, .inl (cy 3, 8, .inr (.inr (.inr (.inr sQ))))), (hfo, .inr (1, [.int rw, .long rg, .long rs, .long re, .int ri, .int ro, .ref hfa, .ref hun])), (hfa, .inr (0, [.ref hfp, .ref hft, .int r_8.1, .long r_8.2.1, .long r_8.2.2.1])), (hfp, .inl (cy 1, 9, .inr (.inl r_8.2.2.2.1))), (hft, .inl (cy 0, 9, .inl r_8.2.2.2.2))] H10 := hP.sub [0, 1, 2, 3, 4, 5] rfl
          have hD : va_D A [(hsf, .inr (4, [.ref hst, .int sN, .ref hsq, .int sC, .ref hre])), (hsq, .inl (cy 3, 8, .inr (.inr (.inr (.inr sQ))))), (hfo, .inr (1, [.int rw, .long rg, .long rs, .long re, .int ri, .int ro, .ref hfa, .ref hun])), (hfa, .inr (0, [.ref hfp, .ref hft, .int r_8.1, .long r_8.2.1, .long r_8.2.2.1])), (hfp, .inl (cy 1, 9, .inr (.inl r_8.2.2.2.1))), (hft, .inl (cy 0, 9, .inl r_8.2.2.2.2))] := hD.sub [0, 1, 2, 3, 4, 5] (by decide) rfl
          refine lv_iload_n hx hb dX5_factor_46 rfl (lv_at hl 3 rfl) ?_
          refine lv_aload hx hb dX5_factor_47 (lv_at hl 0 rfl) ?_
          refine va_getN (D := D) (ci := 1) (v := .ref hfa) (C := RX1) (T := TX1) (N := 8) hx hb hts inX5_factor_X1 hown hK hP 2 rfl rfl 6 (by decide) (va_Nw.use rfl (nwX5_85 hN)) (fun _ h9 => h9) rfl dX5_factor_49 ?_
          refine va_getN (D := D) (ci := 0) (v := .int r_8.1) (C := RX0) (T := TX0) (N := 5) hx hb hts inX5_factor_X0 hown hK hP 3 rfl rfl 2 (by decide) (va_Nw.use rfl (nwX5_98 hN)) (fun _ h9 => h9) rfl dX5_factor_52 ?_
          refine lv_icmp_lt (tgt := 62) hx hb dX5_factor_55 (by decide) (fun c_12 => ?_) (fun c_12 => ?_)
          · have hf := ite_t hf c_12
            refine lv_iload_n hx hb dX5_factor_62 rfl (lv_at hl 4 rfl) ?_
            refine lv_if_ne (tgt := 79) hx hb dX5_factor_63 (by decide) (fun c_13 => ?_) (fun c_13 => ?_)
            · have hf := ite_f hf c_13
              refine lv_aload hx hb dX5_factor_79 (lv_at hl 0 rfl) ?_
              refine va_getN (D := D) (ci := 1) (v := .ref hfa) (C := RX1) (T := TX1) (N := 8) hx hb hts inX5_factor_X1 hown hK hP 2 rfl rfl 6 (by decide) (va_Nw.use rfl (nwX5_85 hN)) (fun _ h9 => h9) rfl dX5_factor_81 ?_
              refine va_getN (D := D) (ci := 0) (v := .ref hft) (C := RX0) (T := TX0) (N := 5) hx hb hts inX5_factor_X0 hown hK hP 3 rfl rfl 1 (by decide) (va_Nw.use rfl (nwX5_105 hN)) (fun _ h9 => h9) rfl dX5_factor_84 ?_
              refine lv_iload_n hx hb dX5_factor_87 rfl (lv_at hl 3 rfl) ?_
              obtain ⟨b_14, hf⟩ := ite_n hf
              refine va_iald hx hb hK hP 5 0 rfl rfl b_14 dX5_factor_88 ?_
              refine lv_i2l (v := (r_8.2.2.2.2 x2.toNatClampNeg).toInt64) hx hb dX5_factor_89 rfl ?_
              cases hf
              exact W.lret (v := (r_8.2.2.2.2 x2.toNatClampNeg).toInt64) hx hb hr (fun t ht hW => ⟨⟨_, (), rfl, rfl, by rw [ht]; exact hP, hD⟩, hS.F ht⟩) hS.2.2 dX5_factor_90
            · have hf := ite_t hf c_13
              refine lv_aload hx hb dX5_factor_66 (lv_at hl 0 rfl) ?_
              refine va_getN (D := D) (ci := 1) (v := .ref hfa) (C := RX1) (T := TX1) (N := 8) hx hb hts inX5_factor_X1 hown hK hP 2 rfl rfl 6 (by decide) (va_Nw.use rfl (nwX5_85 hN)) (fun _ h9 => h9) rfl dX5_factor_68 ?_
              refine va_getN (D := D) (ci := 0) (v := .ref hfp) (C := RX0) (T := TX0) (N := 5) hx hb hts inX5_factor_X0 hown hK hP 3 rfl rfl 0 (by decide) (va_Nw.use rfl (nwX5_101 hN)) (fun _ h9 => h9) rfl dX5_factor_71 ?_
              refine lv_iload_n hx hb dX5_factor_74 rfl (lv_at hl 3 rfl) ?_
              obtain ⟨b_15, hf⟩ := ite_n hf
              refine va_lald hx hb hK hP 4 1 rfl rfl b_15 dX5_factor_75 ?_
              refine lv_goto (tgt := 90) hx hb dX5_factor_76 (by decide) ?_
              cases hf
              exact W.lret (v := (r_8.2.2.2.1 x2.toNatClampNeg)) hx hb hr (fun t ht hW => ⟨⟨_, (), rfl, rfl, by rw [ht]; exact hP, hD⟩, hS.F ht⟩) hS.2.2 dX5_factor_90
          · have hf := ite_f hf c_12
            refine lv_ldc2 (v := (-1 : Int64)) hx hb hown (hts _ mX5_factor_0) dX5_factor_58 ?_
            cases hf
            exact W.lret (v := (-1 : Int64)) hx hb hr (fun t ht hW => ⟨⟨_, (), rfl, rfl, by rw [ht]; exact hP, hD⟩, hS.F ht⟩) hS.2.2 dX5_factor_61
        · have hf := ite_f hf c_6
          refine lv_ldc2 (v := (-1 : Int64)) hx hb hown (hts _ mX5_factor_0) dX5_factor_21 ?_
          cases hf
          exact W.lret (v := (-1 : Int64)) hx hb hr (fun t ht hW => ⟨⟨_, (), rfl, rfl, by rw [ht]; exact hP, hD⟩, hS.F ht⟩) hS.2.2 dX5_factor_24
/-! SumForms.factors(I)I -/
abbrev rX5_factors : Room := { frames := 6, cells := 0, slots := 0, locals := 169 }
theorem mX5_factors_0 : Cond.fieldLink RX5 19 "SumForms" "forms" "[LSumForms$Form;" ∈ wsX5_factors := by decide +kernel
theorem mX5_factors_1 : Cond.initialized RX0 ∈ wsX5_factors := by decide +kernel
theorem mX5_factors_2 : Cond.instanceMethod yX0_findFor ∈ wsX5_factors := by decide +kernel
theorem mX5_factors_3 : Cond.selects RX0 yX0_findFor yX0_findFor ∈ wsX5_factors := by decide +kernel
theorem inX5_factors_X0 : ∀ w ∈ u_ws RX0 TX0 5, w ∈ wsX5_factors := by decide +kernel
theorem inX5_factors_X1 : ∀ w ∈ u_ws RX1 TX1 8, w ∈ wsX5_factors := by decide +kernel
theorem inX5_factors_X5 : ∀ w ∈ u_ws RX5 TX5 5, w ∈ wsX5_factors := by decide +kernel
abbrev GX5_factors (p : Program) (l : Launch) (e : Env) (s : State) (m : MethodId) (args : Array Value) (below : List Frame) (meth : Method) (c : Code) (D : va_G) (cy : Nat → ClassId) (A : Nat → Prop) (hsf : Nat) (hst : Nat) (hsq : Nat) (hre : Nat) (hfo : Nat) (hfa : Nat) (hun : Nat) (hfp : Nat) (hft : Nat) (sN : Int32) (sC : Int32) (sQ : Nat → Option Nat) (rw : Int32) (rg : Int64) (rs : Int64) (re : Int64) (ri : Int32) (ro : Int32) (r0 : Int32 × Int32 × Int64 × Int64 × (Nat → Int64) × (Nat → Int32)) (H : Heap) (locs : List Loc) (fr : JFrame) : Prop := W p l e (headSpec wsX5_factors rX5_factors).room s m args below meth c H locs 0 0 (MQ below (Qwi D A [(hsf, .inr (4, [.ref hst, .int sN, .ref hsq, .int sC, .ref hre])), (hsq, .inl (cy 3, 8, .inr (.inr (.inr (.inr sQ))))), (hfo, .inr (1, [.int rw, .long rg, .long rs, .long re, .int ri, .int ro, .ref hfa, .ref hun])), (hfa, .inr (0, [.ref hfp, .ref hft, .int r0.2.1, .long r0.2.2.1, .long r0.2.2.2.1])), (hfp, .inl (cy 1, 9, .inr (.inl r0.2.2.2.2.1))), (hft, .inl (cy 0, 9, .inl r0.2.2.2.2.2))] r0.1) args s 0 0 A) fr
def fX5_factors (N : Nat) (sC : Int32) (rg : Int64) (fN : Int32) (fO : Int64) (fG : Int64) (fP : Nat → Int64) (fT : Nat → Int32) (x1 : Int32) : Option (Int32 × Int32 × Int64 × Int64 × (Nat → Int64) × (Nat → Int32)) := ((fX5_isForm N sC x1).bind (fun r_1 => (if r_1 = 0 then (some ((-1 : Int32), fN, fO, fG, fP, fT)) else (if OOB x1 8 then none else ((fX0_findFor N fN fO fG fP fT rg).bind (fun r_5 => (some (r_5.1, r_5.1, r_5.2.1, r_5.2.2.1, r_5.2.2.2.1, r_5.2.2.2.2))))))))
set_option maxHeartbeats 4000000 in
set_option maxRecDepth 100000 in
theorem ctX5_factors (l : Launch) (D : va_G) (cy : Nat → ClassId) (N : Nat) (hsf hst hsq hre hfo hfa hun hfp hft : Nat) (sz : Nat) (sN : Int32) (sC : Int32) (sQ : Nat → Option Nat) (rw : Int32) (rg : Int64) (rs : Int64) (re : Int64) (ri : Int32) (ro : Int32) (fN : Int32) (fO : Int64) (fG : Int64) (fP : Nat → Int64) (fT : Nat → Int32) (x1 : Int32) (r0 : Int32 × Int32 × Int64 × Int64 × (Nat → Int64) × (Nat → Int32)) (hQ : vp_in x1 8 → sQ x1.toNatClampNeg = some hfo) (hf : fX5_factors N sC rg fN fO fG fP fT x1 = some r0) : Met l yX5_factors wsX5_factors rX5_factors (va_Pc [.ref hsf, .int x1] (Wr D cy [(hsf, .inr (4, [.ref hst, .int sN, .ref hsq, .int sC, .ref hre])), (hsq, .inl (cy 3, 8, .inr (.inr (.inr (.inr sQ))))), (hfo, .inr (1, [.int rw, .long rg, .long rs, .long re, .int ri, .int ro, .ref hfa, .ref hun])), (hfa, .inr (0, [.ref hfp, .ref hft, .int fN, .long fO, .long fG])), (hfp, .inl (cy 1, 9, .inr (.inl fP))), (hft, .inl (cy 0, 9, .inl fT))] sz)) (Qwi D (va_A [(hsf, .inr (4, [.ref hst, .int sN, .ref hsq, .int sC, .ref hre])), (hsq, .inl (cy 3, 8, .inr (.inr (.inr (.inr sQ))))), (hfo, .inr (1, [.int rw, .long rg, .long rs, .long re, .int ri, .int ro, .ref hfa, .ref hun])), (hfa, .inr (0, [.ref hfp, .ref hft, .int fN, .long fO, .long fG])), (hfp, .inl (cy 1, 9, .inr (.inl fP))), (hft, .inl (cy 0, 9, .inl fT))] sz) [(hsf, .inr (4, [.ref hst, .int sN, .ref hsq, .int sC, .ref hre])), (hsq, .inl (cy 3, 8, .inr (.inr (.inr (.inr sQ))))), (hfo, .inr (1, [.int rw, .long rg, .long rs, .long re, .int ri, .int ro, .ref hfa, .ref hun])), (hfa, .inr (0, [.ref hfp, .ref hft, .int r0.2.1, .long r0.2.2.1, .long r0.2.2.2.1])), (hfp, .inl (cy 1, 9, .inr (.inl r0.2.2.2.2.1))), (hft, .inl (cy 0, 9, .inl r0.2.2.2.2.2))] r0.1) 0 0 (va_A [(hsf, .inr (4, [.ref hst, .int sN, .ref hsq, .int sC, .ref hre])), (hsq, .inl (cy 3, 8, .inr (.inr (.inr (.inr sQ))))), (hfo, .inr (1, [.int rw, .long rg, .long rs, .long re, .int ri, .int ro, .ref hfa, .ref hun])), (hfa, .inr (0, [.ref hfp, .ref hft, .int fN, .long fO, .long fG])), (hfp, .inl (cy 1, 9, .inr (.inl fP))), (hft, .inl (cy 0, 9, .inl fT))] sz) := by
  refine Met.ofW (cc := cX5_factors) (maxL := 3) (ret := (some .int)) (by decide) rfl ?_
  intro p e s m args below meth c s₁ B hml hv
  obtain ⟨rfl, hsz, hP, hD0, hB⟩ := hv
  have hx := B.exec
  have hb := B.bytes
  have hr := B.returns
  have hts := atoms_spec (ws := wsX5_factors) B.pre
  have hown : s.vm.findClass RX5 = some m.cls := findClass_of_methodNamed B.named
  have hlocks := B.notSynchronized
  have hK := hB.1
  have hN := hB.2
  subst hsz
  have hD := hD0.self (sz := s.heap.size)
  have hA : ∀ q : Nat, s.heap.size ≤ q → va_A [(hsf, .inr (4, [.ref hst, .int sN, .ref hsq, .int sC, .ref hre])), (hsq, .inl (cy 3, 8, .inr (.inr (.inr (.inr sQ))))), (hfo, .inr (1, [.int rw, .long rg, .long rs, .long re, .int ri, .int ro, .ref hfa, .ref hun])), (hfa, .inr (0, [.ref hfp, .ref hft, .int fN, .long fO, .long fG])), (hfp, .inl (cy 1, 9, .inr (.inl fP))), (hft, .inl (cy 0, 9, .inl fT))] s.heap.size q := fun q h => Or.inr h
  generalize va_A [(hsf, .inr (4, [.ref hst, .int sN, .ref hsq, .int sC, .ref hre])), (hsq, .inl (cy 3, 8, .inr (.inr (.inr (.inr sQ))))), (hfo, .inr (1, [.int rw, .long rg, .long rs, .long re, .int ri, .int ro, .ref hfa, .ref hun])), (hfa, .inr (0, [.ref hfp, .ref hft, .int fN, .long fO, .long fG])), (hfp, .inl (cy 1, 9, .inr (.inl fP))), (hft, .inl (cy 0, 9, .inl fT))] s.heap.size = A at hD hA ⊢
  have hS : va_S A s.heap s.heap [] := va_S.rf
  have hl := lv_entry ([.ref hsf, .int x1]) (n := 3) (Nat.le_of_ble_eq_true rfl)
  rw [lg_entry_eq]
  generalize (lg_sl ([.ref hsf, .int x1]) ++ List.replicate (3 - (lg_sl ([.ref hsf, .int x1])).length) Slot.unset).toArray = ls at hl ⊢
  have hl : lv_has ls 3 [(0, .ref hsf), (1, .int x1)] := hl
  have E0 : En p m c cX5_factors 3 s ([.ref hsf, .int x1] : List Value).toArray wsX5_factors RX5 meth (some .int) D cy := ⟨⟨hx, hb, hml, hown, hts⟩, hr, hlocks, hB⟩
  unfold fX5_factors at hf
  refine lv_aload_n hx hb dX5_factors_0 rfl (lv_at hl 0 rfl) ?_
  refine lv_iload_n hx hb dX5_factors_1 rfl (lv_at hl 1 rfl) ?_
  obtain ⟨r_1, h_2, hf⟩ := bind_some hf
  have hP_r_1 : va_P D vwCl [(hsf, .inr (4, [.ref hst, .int sN, .ref hsq, .int sC, .ref hre]))] s.heap := hP.sub [0] rfl
  refine cz_i (va_runV (As := [.int x1]) (rest := []) ⟨hx, hb, hml, hown, hts⟩ (ctX5_isForm l D cy N hsf hst hsq hre sN sC x1 r_1 h_2) (cwV 1 hts gX5_factors_X5_isForm rfl rfl rfl (by decide +kernel) ⟨Nat.le_of_ble_eq_true rfl, Nat.le_of_ble_eq_true rfl⟩) (preV_rd (ci := 4) (q0 := 0) [.int x1] hP_r_1 hB rfl rfl) rfl rfl hl.1 rfl (lv_room (Nat.le_of_ble_eq_true rfl)) dX5_factors_2 ⟨Nat.zero_le _, Nat.zero_le _⟩) ?_
  refine lv_if_ne (tgt := 10) hx hb dX5_factors_5 (by decide) (fun c_3 => ?_) (fun c_3 => ?_)
  · have hf := ite_f hf c_3
    refine lv_aload_n hx hb dX5_factors_10 rfl (lv_at hl 0 rfl) ?_
    refine va_get (D := D) (ci := 4) (v := .ref hsq) (C := RX5) (T := TX5) (N := 5) hx hb hts inX5_factors_X5 hown hK hP 0 rfl rfl 2 (by decide) (hts _ mX5_factors_0) (fun _ h9 => h9) rfl dX5_factors_11 ?_
    refine lv_iload_n hx hb dX5_factors_14 rfl (lv_at hl 1 rfl) ?_
    obtain ⟨b_4, hf⟩ := ite_n hf
    refine zz_aald hx hb hK hP 1 3 rfl rfl b_4 (hQ b_4) dX5_factors_15 ?_
    refine lv_astore_n (lv' := [(2, .ref hfo), (0, .ref hsf), (1, .int x1)]) hx hb dX5_factors_16 rfl hl (by decide) rfl (fun ls hl => ?_)
    refine lv_aload_n hx hb dX5_factors_17 rfl (lv_at hl 0 rfl) ?_
    refine va_getN (D := D) (ci := 1) (v := .ref hfa) (C := RX1) (T := TX1) (N := 8) hx hb hts inX5_factors_X1 hown hK hP 2 rfl rfl 6 (by decide) (va_Nw.use rfl (nwX5_85 hN)) (fun _ h9 => h9) rfl dX5_factors_18 ?_
    refine lv_aload_n hx hb dX5_factors_21 rfl (lv_at hl 0 rfl) ?_
    refine va_getN (D := D) (ci := 1) (v := .long rg) (C := RX1) (T := TX1) (N := 8) hx hb hts inX5_factors_X1 hown hK hP 2 rfl rfl 1 (by decide) (va_Nw.use rfl (nwX5_89 hN)) (fun _ h9 => h9) rfl dX5_factors_22 ?_
    obtain ⟨r_5, h_6, hf⟩ := bind_some hf
    have hP_r_5 : va_P D vwCl [(hfa, .inr (0, [.ref hfp, .ref hft, .int fN, .long fO, .long fG])), (hfp, .inl (cy 1, 9, .inr (.inl fP))), (hft, .inl (cy 0, 9, .inl fT))] s.heap := hP.sub [3, 4, 5] rfl
    have hD_r_5 : va_D A [(hfa, .inr (0, [.ref hfp, .ref hft, .int fN, .long fO, .long fG])), (hfp, .inl (cy 1, 9, .inr (.inl fP))), (hft, .inl (cy 0, 9, .inl fT))] := hD.sub [3, 4, 5] (by decide) rfl
    refine cj_v (wc := [(hfa, .inr (0, [.ref hfp, .ref hft, .int fN, .long fO, .long fG])), (hfp, .inl (cy 1, 9, .inr (.inl fP))), (hft, .inl (cy 0, 9, .inl fT))]) (wr := [(hsf, .inr (4, [.ref hst, .int sN, .ref hsq, .int sC, .ref hre])), (hsq, .inl (cy 3, 8, .inr (.inr (.inr (.inr sQ))))), (hfo, .inr (1, [.int rw, .long rg, .long rs, .long re, .int ri, .int ro, .ref hfa, .ref hun]))]) (w1 := [(hfa, .inr (0, [.ref hfp, .ref hft, .int r_5.1, .long r_5.2.1, .long r_5.2.2.1])), (hfp, .inl (cy 1, 9, .inr (.inl r_5.2.2.2.1))), (hft, .inl (cy 0, 9, .inl r_5.2.2.2.2))]) [3, 4, 5] [0, 1, 2] (va_runVN (As := [.long rg]) (rest := []) ⟨hx, hb, hml, hown, hts⟩ (ctX0_findFor l D cy N hfa hfp hft s.heap.size fN fO fG fP fT rg r_5 h_6) ⟨va_cnB 1 hts gX5_factors_X0_findFor_n92 rfl rfl rfl (nwX5_92 hN) (hts _ mX5_factors_1) (by decide +kernel) ⟨Nat.le_of_ble_eq_true rfl, Nat.le_of_ble_eq_true rfl⟩, hts _ mX5_factors_2, hts _ mX5_factors_3⟩ (preV_wr (ci := 0) (q0 := 0) [.long rg] hP_r_5 hD_r_5 hB rfl rfl) rfl rfl hl.1 rfl (lv_room (Nat.le_of_ble_eq_true rfl)) dX5_factors_25 ⟨Nat.zero_le _, Nat.zero_le _⟩) hP hD hS hA rfl rfl (by decide) (by decide) (fun H7 locs8 hP hD hS => ?_)
    have hP : va_P D vwCl [(hsf, .inr (4, [.ref hst, .int sN, .ref hsq, .int sC, .ref hre])), (hsq, .inl (cy 3, 8, .inr (.inr (.inr (.inr sQ))))), (hfo, .inr (1, [.int rw, .long rg, .long rs, .long re, .int ri, .int ro, .ref hfa, .ref hun])), (hfa, .inr (0, [.ref hfp, .ref hft, .int r_5.1, .long r_5.2.1, .long r_5.2.2.1])), (hfp, .inl (cy 1, 9, .inr (.inl r_5.2.2.2.1))), (hft, .inl (cy 0, 9, .inl r_5.2.2.2.2))] H7 := hP.sub [0, 1, 2, 3, 4, 5] rfl
    have hD : va_D A [(hsf, .inr (4, [.ref hst, .int sN, .ref hsq, .int sC, .ref hre])), (hsq, .inl (cy 3, 8, .inr (.inr (.inr (.inr sQ))))), (hfo, .inr (1, [.int rw, .long rg, .long rs, .long re, .int ri, .int ro, .ref hfa, .ref hun])), (hfa, .inr (0, [.ref hfp, .ref hft, .int r_5.1, .long r_5.2.1, .long r_5.2.2.1])), (hfp, .inl (cy 1, 9, .inr (.inl r_5.2.2.2.1))), (hft, .inl (cy 0, 9, .inl r_5.2.2.2.2))] := hD.sub [0, 1, 2, 3, 4, 5] (by decide) rfl
    refine lv_aload_n hx hb dX5_factors_28 rfl (lv_at hl 0 rfl) ?_
    refine va_getN (D := D) (ci := 1) (v := .ref hfa) (C := RX1) (T := TX1) (N := 8) hx hb hts inX5_factors_X1 hown hK hP 2 rfl rfl 6 (by decide) (va_Nw.use rfl (nwX5_85 hN)) (fun _ h9 => h9) rfl dX5_factors_29 ?_
    refine va_getN (D := D) (ci := 0) (v := .int r_5.1) (C := RX0) (T := TX0) (N := 5) hx hb hts inX5_factors_X0 hown hK hP 3 rfl rfl 2 (by decide) (va_Nw.use rfl (nwX5_98 hN)) (fun _ h9 => h9) rfl dX5_factors_32 ?_
    cases hf
    exact W.iret (v := r_5.1) hx hb hr (fun t ht hW => ⟨⟨_, (), rfl, rfl, by rw [ht]; exact hP, hD⟩, hS.F ht⟩) hS.2.2 dX5_factors_35
  · have hf := ite_t hf c_3
    refine lv_iconst (v := (-1 : Int32)) hx hb dX5_factors_8 (by decide) ?_
    cases hf
    exact W.iret (v := (-1 : Int32)) hx hb hr (fun t ht hW => ⟨⟨_, (), rfl, rfl, by rw [ht]; exact hP, hD⟩, hS.F ht⟩) hS.2.2 dX5_factors_9
/-! SumForms.feed(IJ)I -/
abbrev rX5_feed : Room := { frames := 0, cells := 0, slots := 0, locals := 0 }
theorem mX5_feed_0 : Cond.fieldLink RX5 13 "SumForms" "octets" "I" ∈ wsX5_feed := by decide +kernel
theorem mX5_feed_1 : Cond.fieldLink RX5 9 "SumForms" "text" "[I" ∈ wsX5_feed := by decide +kernel
theorem inX5_feed_X5 : ∀ w ∈ u_ws RX5 TX5 5, w ∈ wsX5_feed := by decide +kernel
abbrev GX5_feed (p : Program) (l : Launch) (e : Env) (s : State) (m : MethodId) (args : Array Value) (below : List Frame) (meth : Method) (c : Code) (D : va_G) (cy : Nat → ClassId) (A : Nat → Prop) (hsf : Nat) (hst : Nat) (hsq : Nat) (hre : Nat) (sC : Int32) (r0 : Int32 × Int32 × (Nat → Int32)) (H : Heap) (locs : List Loc) (fr : JFrame) : Prop := W p l e (headSpec wsX5_feed rX5_feed).room s m args below meth c H locs 0 0 (MQ below (Qwi D A [(hsf, .inr (4, [.ref hst, .int r0.2.1, .ref hsq, .int sC, .ref hre])), (hst, .inl (cy 0, 600, .inl r0.2.2))] r0.1) args s 0 0 A) fr
def fX5_feed_B33 (N : Nat) (x2 : Int64) (self : Int32 → (Nat → Int32) → Int32 → Option (Int32 × Int32 × (Nat → Int32))) (k : Int32 → (Nat → Int32) → Option (Int32 × Int32 × (Nat → Int32))) (sN : Int32) (sT : Nat → Int32) (x4 : Int32) : Option (Int32 × Int32 × (Nat → Int32)) := (if x4 < 0 then (k sN sT) else (if OOB sN 600 then none else (self (sN + (1 : Int32)) (upd sT sN.toNatClampNeg ((lUsh x2 ((8 : Int32) * x4)).toInt32 &&& (255 : Int32))) (x4 + (-1 : Int32)))))
def fX5_feed_L33 (N : Nat) (x2 : Int64) (k : Int32 → (Nat → Int32) → Option (Int32 × Int32 × (Nat → Int32))) : Nat → Int32 → (Nat → Int32) → Int32 → Option (Int32 × Int32 × (Nat → Int32))
  | 0 => fun _ _ _ => none
  | n + 1 => fun sN sT x4 => fX5_feed_B33 N x2 (fX5_feed_L33 N x2 k n) k sN sT x4
def fX5_feed (N : Nat) (sN : Int32) (sT : Nat → Int32) (x1 : Int32) (x2 : Int64) : Option (Int32 × Int32 × (Nat → Int32)) := (if x1 < (1 : Int32) then (some ((-1 : Int32), sN, sT)) else (if x1 ≤ (8 : Int32) then (if (sN + x1) ≤ (600 : Int32) then (fX5_feed_L33 N x2 (fun sN_10 sT_11 => (some (sN_10, sN_10, sT_11))) N sN sT (x1 - (1 : Int32))) else (some ((-2 : Int32), sN, sT))) else (some ((-1 : Int32), sN, sT))))
set_option maxHeartbeats 4000000 in
set_option maxRecDepth 100000 in
theorem wX5_feed_B33 {p : Program} {l : Launch} {e : Env} {s : State} {m : MethodId} {args : Array Value} {below : List Frame} {meth : Method} {c : Code} {D : va_G} {cy : Nat → ClassId} {A : Nat → Prop} {hsf hst hsq hre : Nat} {sC : Int32} {r0 : Int32 × Int32 × (Nat → Int32)} (E0 : En p m c cX5_feed 5 s args wsX5_feed RX5 meth (some .int) D cy) (N : Nat) (x2 : Int64) (hA : ∀ q, s.heap.size ≤ q → A q) (self : Int32 → (Nat → Int32) → Int32 → Option (Int32 × Int32 × (Nat → Int32))) (hself : ∀ (sN : Int32) (sT : Nat → Int32) (x4 : Int32) (H : Heap) (locs : List Loc) (ls : Array Slot), va_P D vwCl [(hsf, .inr (4, [.ref hst, .int sN, .ref hsq, .int sC, .ref hre])), (hst, .inl (cy 0, 600, .inl sT))] H → va_D A [(hsf, .inr (4, [.ref hst, .int sN, .ref hsq, .int sC, .ref hre])), (hst, .inl (cy 0, 600, .inl sT))] → va_S A s.heap H locs → lv_has ls 5 [(0, .ref hsf), (2, .long x2), (4, .int x4)] → self sN sT x4 = some r0 → GX5_feed p l e s m args below meth c D cy A hsf hst hsq hre sC r0 H locs (F0 m 33 ls [])) (k : Int32 → (Nat → Int32) → Option (Int32 × Int32 × (Nat → Int32))) (hk : ∀ (sN : Int32) (sT : Nat → Int32) (H : Heap) (locs : List Loc) (ls : Array Slot), va_P D vwCl [(hsf, .inr (4, [.ref hst, .int sN, .ref hsq, .int sC, .ref hre])), (hst, .inl (cy 0, 600, .inl sT))] H → va_D A [(hsf, .inr (4, [.ref hst, .int sN, .ref hsq, .int sC, .ref hre])), (hst, .inl (cy 0, 600, .inl sT))] → va_S A s.heap H locs → lv_has ls 5 [(0, .ref hsf)] → k sN sT = some r0 → GX5_feed p l e s m args below meth c D cy A hsf hst hsq hre sC r0 H locs (F0 m 75 ls [])) : ∀ (sN : Int32) (sT : Nat → Int32) (x4 : Int32) (H : Heap) (locs : List Loc) (ls : Array Slot), va_P D vwCl [(hsf, .inr (4, [.ref hst, .int sN, .ref hsq, .int sC, .ref hre])), (hst, .inl (cy 0, 600, .inl sT))] H → va_D A [(hsf, .inr (4, [.ref hst, .int sN, .ref hsq, .int sC, .ref hre])), (hst, .inl (cy 0, 600, .inl sT))] → va_S A s.heap H locs → lv_has ls 5 [(0, .ref hsf), (2, .long x2), (4, .int x4)] → fX5_feed_B33 N x2 self k sN sT x4 = some r0 → GX5_feed p l e s m args below meth c D cy A hsf hst hsq hre sC r0 H locs (F0 m 33 ls []) := by
  obtain ⟨⟨hx, hb, hml, hown, hts⟩, hr, hlocks, hB⟩ := id E0
  have hK := hB.1
  have hN := hB.2
  intro sN sT x4 H locs ls hP hD hS hl hf
  unfold fX5_feed_B33 at hf
  refine lv_iload hx hb dX5_feed_33 (lv_at hl 2 rfl) ?_
  refine lv_if_lt (tgt := 75) hx hb dX5_feed_35 (by decide) (fun c_4 => ?_) (fun c_4 => ?_)
  · have hf := ite_t hf c_4
    exact hk _ _ _ _ _ hP hD hS (lv_sub hl [0] rfl) hf
  · have hf := ite_f hf c_4
    refine lv_aload_n hx hb dX5_feed_38 rfl (lv_at hl 0 rfl) ?_
    refine va_get (D := D) (ci := 4) (v := .ref hst) (C := RX5) (T := TX5) (N := 5) hx hb hts inX5_feed_X5 hown hK hP 0 rfl rfl 0 (by decide) (hts _ mX5_feed_1) (fun _ h9 => h9) rfl dX5_feed_39 ?_
    refine lv_aload_n hx hb dX5_feed_42 rfl (lv_at hl 0 rfl) ?_
    refine va_get (D := D) (ci := 4) (v := .int sN) (C := RX5) (T := TX5) (N := 5) hx hb hts inX5_feed_X5 hown hK hP 0 rfl rfl 1 (by decide) (hts _ mX5_feed_0) (fun _ h9 => h9) rfl dX5_feed_43 ?_
    refine lv_lload_n hx hb dX5_feed_46 rfl (lv_at hl 1 rfl) ?_
    refine lv_bipush (v := (8 : Int32)) hx hb dX5_feed_47 (by decide) ?_
    refine lv_iload hx hb dX5_feed_49 (lv_at hl 2 rfl) ?_
    refine lv_imul hx hb dX5_feed_51 ?_
    refine zz_lushr hx hb dX5_feed_52 ?_
    refine lv_l2i (v := (lUsh x2 ((8 : Int32) * x4)).toInt32) hx hb dX5_feed_53 rfl ?_
    refine lv_sipush (v := (255 : Int32)) hx hb dX5_feed_54 (by decide) ?_
    refine lv_iand hx hb dX5_feed_57 ?_
    obtain ⟨b_5, hf⟩ := ite_n hf
    refine va_iast hx hb hK hP hD hS 1 0 rfl rfl b_5 dX5_feed_58 (fun H6 locs7 hP hD hS => ?_)
    have hP : va_P D vwCl [(hsf, .inr (4, [.ref hst, .int sN, .ref hsq, .int sC, .ref hre])), (hst, .inl (cy 0, 600, .inl (upd sT sN.toNatClampNeg ((lUsh x2 ((8 : Int32) * x4)).toInt32 &&& (255 : Int32)))))] H6 := hP
    have hD : va_D A [(hsf, .inr (4, [.ref hst, .int sN, .ref hsq, .int sC, .ref hre])), (hst, .inl (cy 0, 600, .inl (upd sT sN.toNatClampNeg ((lUsh x2 ((8 : Int32) * x4)).toInt32 &&& (255 : Int32)))))] := hD
    refine lv_aload_n hx hb dX5_feed_59 rfl (lv_at hl 0 rfl) ?_
    refine lv_dup hx hb dX5_feed_60 rfl ?_
    refine va_get (D := D) (ci := 4) (v := .int sN) (C := RX5) (T := TX5) (N := 5) hx hb hts inX5_feed_X5 hown hK hP 0 rfl rfl 1 (by decide) (hts _ mX5_feed_0) (fun _ h9 => h9) rfl dX5_feed_61 ?_
    refine lv_iconst (v := (1 : Int32)) hx hb dX5_feed_64 (by decide) ?_
    refine lv_iadd hx hb dX5_feed_65 ?_
    refine va_put (D := D) (ci := 4) (v := .int (sN + (1 : Int32))) (ty := .int) (C := RX5) (T := TX5) (N := 5) hx hb hts inX5_feed_X5 tyX5 tyX5_ok nmX5 hown hK hP hD hS 0 rfl rfl 1 (by decide) (hts _ mX5_feed_0) (fun _ h9 => h9) rfl (by decide +kernel) rfl rfl (Nat.le_of_ble_eq_true rfl) dX5_feed_66 (fun H8 locs9 hP hD hS => ?_)
    have hP : va_P D vwCl [(hsf, .inr (4, [.ref hst, .int (sN + (1 : Int32)), .ref hsq, .int sC, .ref hre])), (hst, .inl (cy 0, 600, .inl (upd sT sN.toNatClampNeg ((lUsh x2 ((8 : Int32) * x4)).toInt32 &&& (255 : Int32)))))] H8 := hP
    have hD : va_D A [(hsf, .inr (4, [.ref hst, .int (sN + (1 : Int32)), .ref hsq, .int sC, .ref hre])), (hst, .inl (cy 0, 600, .inl (upd sT sN.toNatClampNeg ((lUsh x2 ((8 : Int32) * x4)).toInt32 &&& (255 : Int32)))))] := hD
    refine lv_iinc (v := (x4 + (-1 : Int32))) (lv' := [(4, .int (x4 + (-1 : Int32))), (0, .ref hsf), (2, .long x2)]) hx hb dX5_feed_69 hl (k := 2) rfl rfl (by decide) rfl (fun ls hl => ?_)
    refine lv_goto (tgt := 33) hx hb dX5_feed_72 (by decide) ?_
    exact hself _ _ _ _ _ _ hP hD hS (lv_sub hl [1, 2, 0] rfl) hf
theorem wX5_feed_L33 {p : Program} {l : Launch} {e : Env} {s : State} {m : MethodId} {args : Array Value} {below : List Frame} {meth : Method} {c : Code} {D : va_G} {cy : Nat → ClassId} {A : Nat → Prop} {hsf hst hsq hre : Nat} {sC : Int32} {r0 : Int32 × Int32 × (Nat → Int32)} (E0 : En p m c cX5_feed 5 s args wsX5_feed RX5 meth (some .int) D cy) (N : Nat) (x2 : Int64) (hA : ∀ q, s.heap.size ≤ q → A q) (k : Int32 → (Nat → Int32) → Option (Int32 × Int32 × (Nat → Int32))) (hk : ∀ (sN : Int32) (sT : Nat → Int32) (H : Heap) (locs : List Loc) (ls : Array Slot), va_P D vwCl [(hsf, .inr (4, [.ref hst, .int sN, .ref hsq, .int sC, .ref hre])), (hst, .inl (cy 0, 600, .inl sT))] H → va_D A [(hsf, .inr (4, [.ref hst, .int sN, .ref hsq, .int sC, .ref hre])), (hst, .inl (cy 0, 600, .inl sT))] → va_S A s.heap H locs → lv_has ls 5 [(0, .ref hsf)] → k sN sT = some r0 → GX5_feed p l e s m args below meth c D cy A hsf hst hsq hre sC r0 H locs (F0 m 75 ls [])) : ∀ (n : Nat), ∀ (sN : Int32) (sT : Nat → Int32) (x4 : Int32) (H : Heap) (locs : List Loc) (ls : Array Slot), va_P D vwCl [(hsf, .inr (4, [.ref hst, .int sN, .ref hsq, .int sC, .ref hre])), (hst, .inl (cy 0, 600, .inl sT))] H → va_D A [(hsf, .inr (4, [.ref hst, .int sN, .ref hsq, .int sC, .ref hre])), (hst, .inl (cy 0, 600, .inl sT))] → va_S A s.heap H locs → lv_has ls 5 [(0, .ref hsf), (2, .long x2), (4, .int x4)] → fX5_feed_L33 N x2 k n sN sT x4 = some r0 → GX5_feed p l e s m args below meth c D cy A hsf hst hsq hre sC r0 H locs (F0 m 33 ls []) := by
  intro n
  induction n with
  | zero => intro sN sT x4 H locs ls hP hD hS hl hf; cases hf
  | succ n ih => exact wX5_feed_B33 E0 N x2 hA _ ih k hk
set_option maxHeartbeats 4000000 in
set_option maxRecDepth 100000 in
theorem ctX5_feed (l : Launch) (D : va_G) (cy : Nat → ClassId) (N : Nat) (hsf hst hsq hre : Nat) (sz : Nat) (sN : Int32) (sC : Int32) (sT : Nat → Int32) (x1 : Int32) (x2 : Int64) (r0 : Int32 × Int32 × (Nat → Int32)) (hf : fX5_feed N sN sT x1 x2 = some r0) : Met l yX5_feed wsX5_feed rX5_feed (va_Pc [.ref hsf, .int x1, .long x2] (Wr D cy [(hsf, .inr (4, [.ref hst, .int sN, .ref hsq, .int sC, .ref hre])), (hst, .inl (cy 0, 600, .inl sT))] sz)) (Qwi D (va_A [(hsf, .inr (4, [.ref hst, .int sN, .ref hsq, .int sC, .ref hre])), (hst, .inl (cy 0, 600, .inl sT))] sz) [(hsf, .inr (4, [.ref hst, .int r0.2.1, .ref hsq, .int sC, .ref hre])), (hst, .inl (cy 0, 600, .inl r0.2.2))] r0.1) 0 0 (va_A [(hsf, .inr (4, [.ref hst, .int sN, .ref hsq, .int sC, .ref hre])), (hst, .inl (cy 0, 600, .inl sT))] sz) := by
  refine Met.ofW (cc := cX5_feed) (maxL := 5) (ret := (some .int)) (by decide) rfl ?_
  intro p e s m args below meth c s₁ B hml hv
  obtain ⟨rfl, hsz, hP, hD0, hB⟩ := hv
  have hx := B.exec
  have hb := B.bytes
  have hr := B.returns
  have hts := atoms_spec (ws := wsX5_feed) B.pre
  have hown : s.vm.findClass RX5 = some m.cls := findClass_of_methodNamed B.named
  have hlocks := B.notSynchronized
  have hK := hB.1
  have hN := hB.2
  subst hsz
  have hD := hD0.self (sz := s.heap.size)
  have hA : ∀ q : Nat, s.heap.size ≤ q → va_A [(hsf, .inr (4, [.ref hst, .int sN, .ref hsq, .int sC, .ref hre])), (hst, .inl (cy 0, 600, .inl sT))] s.heap.size q := fun q h => Or.inr h
  generalize va_A [(hsf, .inr (4, [.ref hst, .int sN, .ref hsq, .int sC, .ref hre])), (hst, .inl (cy 0, 600, .inl sT))] s.heap.size = A at hD hA ⊢
  have hS : va_S A s.heap s.heap [] := va_S.rf
  have hl := lv_entry ([.ref hsf, .int x1, .long x2]) (n := 5) (Nat.le_of_ble_eq_true rfl)
  rw [lg_entry_eq]
  generalize (lg_sl ([.ref hsf, .int x1, .long x2]) ++ List.replicate (5 - (lg_sl ([.ref hsf, .int x1, .long x2])).length) Slot.unset).toArray = ls at hl ⊢
  have hl : lv_has ls 5 [(0, .ref hsf), (1, .int x1), (2, .long x2)] := hl
  have E0 : En p m c cX5_feed 5 s ([.ref hsf, .int x1, .long x2] : List Value).toArray wsX5_feed RX5 meth (some .int) D cy := ⟨⟨hx, hb, hml, hown, hts⟩, hr, hlocks, hB⟩
  unfold fX5_feed at hf
  refine lv_iload_n hx hb dX5_feed_0 rfl (lv_at hl 1 rfl) ?_
  refine lv_iconst (v := (1 : Int32)) hx hb dX5_feed_1 (by decide) ?_
  refine lv_icmp_lt (tgt := 11) hx hb dX5_feed_2 (by decide) (fun c_1 => ?_) (fun c_1 => ?_)
  · have hf := ite_t hf c_1
    refine lv_iconst (v := (-1 : Int32)) hx hb dX5_feed_11 (by decide) ?_
    cases hf
    exact W.iret (v := (-1 : Int32)) hx hb hr (fun t ht hW => ⟨⟨_, (), rfl, rfl, by rw [ht]; exact hP, hD⟩, hS.F ht⟩) hS.2.2 dX5_feed_12
  · have hf := ite_f hf c_1
    refine lv_iload_n hx hb dX5_feed_5 rfl (lv_at hl 1 rfl) ?_
    refine lv_bipush (v := (8 : Int32)) hx hb dX5_feed_6 (by decide) ?_
    refine lv_icmp_le (tgt := 13) hx hb dX5_feed_8 (by decide) (fun c_2 => ?_) (fun c_2 => ?_)
    · have hf := ite_t hf c_2
      refine lv_aload_n hx hb dX5_feed_13 rfl (lv_at hl 0 rfl) ?_
      refine va_get (D := D) (ci := 4) (v := .int sN) (C := RX5) (T := TX5) (N := 5) hx hb hts inX5_feed_X5 hown hK hP 0 rfl rfl 1 (by decide) (hts _ mX5_feed_0) (fun _ h9 => h9) rfl dX5_feed_14 ?_
      refine lv_iload_n hx hb dX5_feed_17 rfl (lv_at hl 1 rfl) ?_
      refine lv_iadd hx hb dX5_feed_18 ?_
      refine lv_sipush (v := (600 : Int32)) hx hb dX5_feed_19 (by decide) ?_
      refine lv_icmp_le (tgt := 28) hx hb dX5_feed_22 (by decide) (fun c_3 => ?_) (fun c_3 => ?_)
      · have hf := ite_t hf c_3
        refine lv_iload_n hx hb dX5_feed_28 rfl (lv_at hl 1 rfl) ?_
        refine lv_iconst (v := (1 : Int32)) hx hb dX5_feed_29 (by decide) ?_
        refine lv_isub hx hb dX5_feed_30 ?_
        refine lv_istore (lv' := [(4, .int (x1 - (1 : Int32))), (0, .ref hsf), (1, .int x1), (2, .long x2)]) hx hb dX5_feed_31 hl (by decide) rfl (fun ls hl => ?_)
        refine wX5_feed_L33 E0 N x2 hA _ (fun sN_10 sT_11 H12 locs13 ls hP hD hS hl hf => ?_) N _ _ _ _ _ _ hP hD hS (lv_sub hl [1, 3, 0] rfl) hf
        refine lv_aload_n hx hb dX5_feed_75 rfl (lv_at hl 0 rfl) ?_
        refine va_get (D := D) (ci := 4) (v := .int sN_10) (C := RX5) (T := TX5) (N := 5) hx hb hts inX5_feed_X5 hown hK hP 0 rfl rfl 1 (by decide) (hts _ mX5_feed_0) (fun _ h9 => h9) rfl dX5_feed_76 ?_
        cases hf
        exact W.iret (v := sN_10) hx hb hr (fun t ht hW => ⟨⟨_, (), rfl, rfl, by rw [ht]; exact hP, hD⟩, hS.F ht⟩) hS.2.2 dX5_feed_79
      · have hf := ite_f hf c_3
        refine lv_bipush (v := (-2 : Int32)) hx hb dX5_feed_25 (by decide) ?_
        cases hf
        exact W.iret (v := (-2 : Int32)) hx hb hr (fun t ht hW => ⟨⟨_, (), rfl, rfl, by rw [ht]; exact hP, hD⟩, hS.F ht⟩) hS.2.2 dX5_feed_27
    · have hf := ite_f hf c_2
      refine lv_iconst (v := (-1 : Int32)) hx hb dX5_feed_11 (by decide) ?_
      cases hf
      exact W.iret (v := (-1 : Int32)) hx hb hr (fun t ht hW => ⟨⟨_, (), rfl, rfl, by rw [ht]; exact hP, hD⟩, hS.F ht⟩) hS.2.2 dX5_feed_12
/-! SumForms.forget()I -/
abbrev rX5_forget : Room := { frames := 0, cells := 0, slots := 0, locals := 0 }
theorem mX5_forget_0 : Cond.fieldLink RX5 23 "SumForms" "formCount" "I" ∈ wsX5_forget := by decide +kernel
theorem inX5_forget_X5 : ∀ w ∈ u_ws RX5 TX5 5, w ∈ wsX5_forget := by decide +kernel
abbrev GX5_forget (p : Program) (l : Launch) (e : Env) (s : State) (m : MethodId) (args : Array Value) (below : List Frame) (meth : Method) (c : Code) (D : va_G) (cy : Nat → ClassId) (A : Nat → Prop) (hsf : Nat) (hst : Nat) (hsq : Nat) (hre : Nat) (sN : Int32) (r0 : Int32 × Int32) (H : Heap) (locs : List Loc) (fr : JFrame) : Prop := W p l e (headSpec wsX5_forget rX5_forget).room s m args below meth c H locs 0 0 (MQ below (Qwi D A [(hsf, .inr (4, [.ref hst, .int sN, .ref hsq, .int r0.2, .ref hre]))] r0.1) args s 0 0 A) fr
def fX5_forget (N : Nat) (sC : Int32)  : Option (Int32 × Int32) := (some (sC, (0 : Int32)))
set_option maxHeartbeats 4000000 in
set_option maxRecDepth 100000 in
theorem ctX5_forget (l : Launch) (D : va_G) (cy : Nat → ClassId) (N : Nat) (hsf hst hsq hre : Nat) (sz : Nat) (sN : Int32) (sC : Int32)  (r0 : Int32 × Int32) (hf : fX5_forget N sC = some r0) : Met l yX5_forget wsX5_forget rX5_forget (va_Pc [.ref hsf] (Wr D cy [(hsf, .inr (4, [.ref hst, .int sN, .ref hsq, .int sC, .ref hre]))] sz)) (Qwi D (va_A [(hsf, .inr (4, [.ref hst, .int sN, .ref hsq, .int sC, .ref hre]))] sz) [(hsf, .inr (4, [.ref hst, .int sN, .ref hsq, .int r0.2, .ref hre]))] r0.1) 0 0 (va_A [(hsf, .inr (4, [.ref hst, .int sN, .ref hsq, .int sC, .ref hre]))] sz) := by
  refine Met.ofW (cc := cX5_forget) (maxL := 2) (ret := (some .int)) (by decide) rfl ?_
  intro p e s m args below meth c s₁ B hml hv
  obtain ⟨rfl, hsz, hP, hD0, hB⟩ := hv
  have hx := B.exec
  have hb := B.bytes
  have hr := B.returns
  have hts := atoms_spec (ws := wsX5_forget) B.pre
  have hown : s.vm.findClass RX5 = some m.cls := findClass_of_methodNamed B.named
  have hlocks := B.notSynchronized
  have hK := hB.1
  have hN := hB.2
  subst hsz
  have hD := hD0.self (sz := s.heap.size)
  have hA : ∀ q : Nat, s.heap.size ≤ q → va_A [(hsf, .inr (4, [.ref hst, .int sN, .ref hsq, .int sC, .ref hre]))] s.heap.size q := fun q h => Or.inr h
  generalize va_A [(hsf, .inr (4, [.ref hst, .int sN, .ref hsq, .int sC, .ref hre]))] s.heap.size = A at hD hA ⊢
  have hS : va_S A s.heap s.heap [] := va_S.rf
  have hl := lv_entry ([.ref hsf]) (n := 2) (Nat.le_of_ble_eq_true rfl)
  rw [lg_entry_eq]
  generalize (lg_sl ([.ref hsf]) ++ List.replicate (2 - (lg_sl ([.ref hsf])).length) Slot.unset).toArray = ls at hl ⊢
  have hl : lv_has ls 2 [(0, .ref hsf)] := hl
  have E0 : En p m c cX5_forget 2 s ([.ref hsf] : List Value).toArray wsX5_forget RX5 meth (some .int) D cy := ⟨⟨hx, hb, hml, hown, hts⟩, hr, hlocks, hB⟩
  unfold fX5_forget at hf
  refine lv_aload_n hx hb dX5_forget_0 rfl (lv_at hl 0 rfl) ?_
  refine va_get (D := D) (ci := 4) (v := .int sC) (C := RX5) (T := TX5) (N := 5) hx hb hts inX5_forget_X5 hown hK hP 0 rfl rfl 3 (by decide) (hts _ mX5_forget_0) (fun _ h9 => h9) rfl dX5_forget_1 ?_
  refine lv_istore_n (lv' := [(1, .int sC), (0, .ref hsf)]) hx hb dX5_forget_4 rfl hl (by decide) rfl (fun ls hl => ?_)
  refine lv_aload_n hx hb dX5_forget_5 rfl (lv_at hl 1 rfl) ?_
  refine lv_iconst (v := (0 : Int32)) hx hb dX5_forget_6 (by decide) ?_
  refine va_put (D := D) (ci := 4) (v := .int (0 : Int32)) (ty := .int) (C := RX5) (T := TX5) (N := 5) hx hb hts inX5_forget_X5 tyX5 tyX5_ok nmX5 hown hK hP hD hS 0 rfl rfl 3 (by decide) (hts _ mX5_forget_0) (fun _ h9 => h9) rfl (by decide +kernel) rfl rfl (Nat.le_of_ble_eq_true rfl) dX5_forget_7 (fun H1 locs2 hP hD hS => ?_)
  have hP : va_P D vwCl [(hsf, .inr (4, [.ref hst, .int sN, .ref hsq, .int (0 : Int32), .ref hre]))] H1 := hP
  have hD : va_D A [(hsf, .inr (4, [.ref hst, .int sN, .ref hsq, .int (0 : Int32), .ref hre]))] := hD
  refine lv_iload_n hx hb dX5_forget_10 rfl (lv_at hl 0 rfl) ?_
  cases hf
  exact W.iret (v := sC) hx hb hr (fun t ht hW => ⟨⟨_, (), rfl, rfl, by rw [ht]; exact hP, hD⟩, hS.F ht⟩) hS.2.2 dX5_forget_11
/-! SumForms.form(IJJJZZ)I -/
abbrev rX5_form : Room := { frames := 1, cells := 0, slots := 0, locals := 29 }
theorem mX5_form_0 : Cond.fieldLink RX5 23 "SumForms" "formCount" "I" ∈ wsX5_form := by decide +kernel
theorem mX5_form_1 : Cond.fieldLink RX5 19 "SumForms" "forms" "[LSumForms$Form;" ∈ wsX5_form := by decide +kernel
theorem mX5_form_2 : Cond.initialized RX1 ∈ wsX5_form := by decide +kernel
theorem mX5_form_3 : Cond.instanceMethod yX1_become ∈ wsX5_form := by decide +kernel
theorem mX5_form_4 : Cond.selects RX1 yX1_become yX1_become ∈ wsX5_form := by decide +kernel
theorem inX5_form_X5 : ∀ w ∈ u_ws RX5 TX5 5, w ∈ wsX5_form := by decide +kernel
abbrev GX5_form (p : Program) (l : Launch) (e : Env) (s : State) (m : MethodId) (args : Array Value) (below : List Frame) (meth : Method) (c : Code) (D : va_G) (cy : Nat → ClassId) (A : Nat → Prop) (hsf : Nat) (hst : Nat) (hsq : Nat) (hre : Nat) (hfo : Nat) (hfa : Nat) (hun : Nat) (sN : Int32) (sQ : Nat → Option Nat) (r0 : Int32 × Int32 × Int32 × Int64 × Int64 × Int64 × Int32 × Int32) (H : Heap) (locs : List Loc) (fr : JFrame) : Prop := W p l e (headSpec wsX5_form rX5_form).room s m args below meth c H locs 0 0 (MQ below (Qwi D A [(hsf, .inr (4, [.ref hst, .int sN, .ref hsq, .int r0.2.1, .ref hre])), (hsq, .inl (cy 3, 8, .inr (.inr (.inr (.inr sQ))))), (hfo, .inr (1, [.int r0.2.2.1, .long r0.2.2.2.1, .long r0.2.2.2.2.1, .long r0.2.2.2.2.2.1, .int r0.2.2.2.2.2.2.1, .int r0.2.2.2.2.2.2.2, .ref hfa, .ref hun]))] r0.1) args s 0 0 A) fr
def fX5_form (N : Nat) (sC : Int32) (rw : Int32) (rg : Int64) (rs : Int64) (re : Int64) (ri : Int32) (ro : Int32) (x1 : Int32) (x2 : Int64) (x4 : Int64) (x6 : Int64) (x8 : Int32) (x9 : Int32) : Option (Int32 × Int32 × Int32 × Int64 × Int64 × Int64 × Int32 × Int32) := (if x1 < (3 : Int32) then (some ((-1 : Int32), sC, rw, rg, rs, re, ri, ro)) else (if x1 ≤ (32 : Int32) then ((fX5_hasBits N x2 x1).bind (fun r_3 => (if r_3 = 0 then (some ((-1 : Int32), sC, rw, rg, rs, re, ri, ro)) else ((fX5_hasBits N x4 x1).bind (fun r_6 => (if r_6 = 0 then (some ((-1 : Int32), sC, rw, rg, rs, re, ri, ro)) else ((fX5_hasBits N x6 x1).bind (fun r_9 => (if r_9 = 0 then (some ((-1 : Int32), sC, rw, rg, rs, re, ri, ro)) else (if (x2 &&& (1 : Int64)) = (0 : Int64) then (some ((-1 : Int32), sC, rw, rg, rs, re, ri, ro)) else (if sC < (8 : Int32) then (if OOB sC 8 then none else ((fX1_become N rw rg rs re ri ro x1 x2 x4 x6 x8 x9).bind (fun r_15 => (some (((sC + (1 : Int32)) - (1 : Int32)), (sC + (1 : Int32)), r_15.1, r_15.2.1, r_15.2.2.1, r_15.2.2.2.1, r_15.2.2.2.2.1, r_15.2.2.2.2.2))))) else (some ((-2 : Int32), sC, rw, rg, rs, re, ri, ro))))))))))))) else (some ((-1 : Int32), sC, rw, rg, rs, re, ri, ro))))
set_option maxHeartbeats 4000000 in
set_option maxRecDepth 100000 in
theorem ctX5_form (l : Launch) (D : va_G) (cy : Nat → ClassId) (N : Nat) (hsf hst hsq hre hfo hfa hun : Nat) (sz : Nat) (sN : Int32) (sC : Int32) (sQ : Nat → Option Nat) (rw : Int32) (rg : Int64) (rs : Int64) (re : Int64) (ri : Int32) (ro : Int32) (x1 : Int32) (x2 : Int64) (x4 : Int64) (x6 : Int64) (x8 : Int32) (x9 : Int32) (r0 : Int32 × Int32 × Int32 × Int64 × Int64 × Int64 × Int32 × Int32) (hz_x8 : x8 = 0 ∨ x8 = 1) (hz_x9 : x9 = 0 ∨ x9 = 1) (hQ : vp_in sC 8 → sQ sC.toNatClampNeg = some hfo) (hf : fX5_form N sC rw rg rs re ri ro x1 x2 x4 x6 x8 x9 = some r0) : Met l yX5_form wsX5_form rX5_form (va_Pc [.ref hsf, .int x1, .long x2, .long x4, .long x6, .int x8, .int x9] (Wr D cy [(hsf, .inr (4, [.ref hst, .int sN, .ref hsq, .int sC, .ref hre])), (hsq, .inl (cy 3, 8, .inr (.inr (.inr (.inr sQ))))), (hfo, .inr (1, [.int rw, .long rg, .long rs, .long re, .int ri, .int ro, .ref hfa, .ref hun]))] sz)) (Qwi D (va_A [(hsf, .inr (4, [.ref hst, .int sN, .ref hsq, .int sC, .ref hre])), (hsq, .inl (cy 3, 8, .inr (.inr (.inr (.inr sQ))))), (hfo, .inr (1, [.int rw, .long rg, .long rs, .long re, .int ri, .int ro, .ref hfa, .ref hun]))] sz) [(hsf, .inr (4, [.ref hst, .int sN, .ref hsq, .int r0.2.1, .ref hre])), (hsq, .inl (cy 3, 8, .inr (.inr (.inr (.inr sQ))))), (hfo, .inr (1, [.int r0.2.2.1, .long r0.2.2.2.1, .long r0.2.2.2.2.1, .long r0.2.2.2.2.2.1, .int r0.2.2.2.2.2.2.1, .int r0.2.2.2.2.2.2.2, .ref hfa, .ref hun]))] r0.1) 0 0 (va_A [(hsf, .inr (4, [.ref hst, .int sN, .ref hsq, .int sC, .ref hre])), (hsq, .inl (cy 3, 8, .inr (.inr (.inr (.inr sQ))))), (hfo, .inr (1, [.int rw, .long rg, .long rs, .long re, .int ri, .int ro, .ref hfa, .ref hun]))] sz) := by
  refine Met.ofW (cc := cX5_form) (maxL := 10) (ret := (some .int)) (by decide) rfl ?_
  intro p e s m args below meth c s₁ B hml hv
  obtain ⟨rfl, hsz, hP, hD0, hB⟩ := hv
  have hx := B.exec
  have hb := B.bytes
  have hr := B.returns
  have hts := atoms_spec (ws := wsX5_form) B.pre
  have hown : s.vm.findClass RX5 = some m.cls := findClass_of_methodNamed B.named
  have hlocks := B.notSynchronized
  have hK := hB.1
  have hN := hB.2
  subst hsz
  have hD := hD0.self (sz := s.heap.size)
  have hA : ∀ q : Nat, s.heap.size ≤ q → va_A [(hsf, .inr (4, [.ref hst, .int sN, .ref hsq, .int sC, .ref hre])), (hsq, .inl (cy 3, 8, .inr (.inr (.inr (.inr sQ))))), (hfo, .inr (1, [.int rw, .long rg, .long rs, .long re, .int ri, .int ro, .ref hfa, .ref hun]))] s.heap.size q := fun q h => Or.inr h
  generalize va_A [(hsf, .inr (4, [.ref hst, .int sN, .ref hsq, .int sC, .ref hre])), (hsq, .inl (cy 3, 8, .inr (.inr (.inr (.inr sQ))))), (hfo, .inr (1, [.int rw, .long rg, .long rs, .long re, .int ri, .int ro, .ref hfa, .ref hun]))] s.heap.size = A at hD hA ⊢
  have hS : va_S A s.heap s.heap [] := va_S.rf
  have hl := lv_entry ([.ref hsf, .int x1, .long x2, .long x4, .long x6, .int x8, .int x9]) (n := 10) (Nat.le_of_ble_eq_true rfl)
  rw [lg_entry_eq]
  generalize (lg_sl ([.ref hsf, .int x1, .long x2, .long x4, .long x6, .int x8, .int x9]) ++ List.replicate (10 - (lg_sl ([.ref hsf, .int x1, .long x2, .long x4, .long x6, .int x8, .int x9])).length) Slot.unset).toArray = ls at hl ⊢
  have hl : lv_has ls 10 [(0, .ref hsf), (1, .int x1), (2, .long x2), (4, .long x4), (6, .long x6), (8, .int x8), (9, .int x9)] := hl
  have E0 : En p m c cX5_form 10 s ([.ref hsf, .int x1, .long x2, .long x4, .long x6, .int x8, .int x9] : List Value).toArray wsX5_form RX5 meth (some .int) D cy := ⟨⟨hx, hb, hml, hown, hts⟩, hr, hlocks, hB⟩
  unfold fX5_form at hf
  refine lv_iload_n hx hb dX5_form_0 rfl (lv_at hl 1 rfl) ?_
  refine lv_iconst (v := (3 : Int32)) hx hb dX5_form_1 (by decide) ?_
  refine lv_icmp_lt (tgt := 11) hx hb dX5_form_2 (by decide) (fun c_1 => ?_) (fun c_1 => ?_)
  · have hf := ite_t hf c_1
    refine lv_iconst (v := (-1 : Int32)) hx hb dX5_form_11 (by decide) ?_
    cases hf
    exact W.iret (v := (-1 : Int32)) hx hb hr (fun t ht hW => ⟨⟨_, (), rfl, rfl, by rw [ht]; exact hP, hD⟩, hS.F ht⟩) hS.2.2 dX5_form_12
  · have hf := ite_f hf c_1
    refine lv_iload_n hx hb dX5_form_5 rfl (lv_at hl 1 rfl) ?_
    refine lv_bipush (v := (32 : Int32)) hx hb dX5_form_6 (by decide) ?_
    refine lv_icmp_le (tgt := 13) hx hb dX5_form_8 (by decide) (fun c_2 => ?_) (fun c_2 => ?_)
    · have hf := ite_t hf c_2
      refine lv_lload_n hx hb dX5_form_13 rfl (lv_at hl 2 rfl) ?_
      refine lv_iload_n hx hb dX5_form_14 rfl (lv_at hl 1 rfl) ?_
      obtain ⟨r_3, h_4, hf⟩ := bind_some hf
      have hP_r_3 : va_P D vwCl [] s.heap := hP.sub [] rfl
      refine cz_i (va_runS (As := [.long x2, .int x1]) (rest := []) ⟨hx, hb, hml, hown, hts⟩ (ctX5_hasBits l D cy N   x2 x1 r_3 h_4) (va_cwS 2 hts gX5_form_X5_hasBits rfl rfl rfl (by decide +kernel) ⟨Nat.le_of_ble_eq_true rfl, Nat.le_of_ble_eq_true rfl⟩) (preS_rd [.long x2, .int x1] hP_r_3 hB) rfl rfl hl.1 rfl (lv_room (Nat.le_of_ble_eq_true rfl)) dX5_form_15 ⟨Nat.zero_le _, Nat.zero_le _⟩) ?_
      refine lv_if_eq (tgt := 39) hx hb dX5_form_18 (by decide) (fun c_5 => ?_) (fun c_5 => ?_)
      · have hf := ite_t hf c_5
        refine lv_iconst (v := (-1 : Int32)) hx hb dX5_form_39 (by decide) ?_
        cases hf
        exact W.iret (v := (-1 : Int32)) hx hb hr (fun t ht hW => ⟨⟨_, (), rfl, rfl, by rw [ht]; exact hP, hD⟩, hS.F ht⟩) hS.2.2 dX5_form_40
      · have hf := ite_f hf c_5
        refine lv_lload hx hb dX5_form_21 (lv_at hl 3 rfl) ?_
        refine lv_iload_n hx hb dX5_form_23 rfl (lv_at hl 1 rfl) ?_
        obtain ⟨r_6, h_7, hf⟩ := bind_some hf
        have hP_r_6 : va_P D vwCl [] s.heap := hP.sub [] rfl
        refine cz_i (va_runS (As := [.long x4, .int x1]) (rest := []) ⟨hx, hb, hml, hown, hts⟩ (ctX5_hasBits l D cy N   x4 x1 r_6 h_7) (va_cwS 2 hts gX5_form_X5_hasBits rfl rfl rfl (by decide +kernel) ⟨Nat.le_of_ble_eq_true rfl, Nat.le_of_ble_eq_true rfl⟩) (preS_rd [.long x4, .int x1] hP_r_6 hB) rfl rfl hl.1 rfl (lv_room (Nat.le_of_ble_eq_true rfl)) dX5_form_24 ⟨Nat.zero_le _, Nat.zero_le _⟩) ?_
        refine lv_if_eq (tgt := 39) hx hb dX5_form_27 (by decide) (fun c_8 => ?_) (fun c_8 => ?_)
        · have hf := ite_t hf c_8
          refine lv_iconst (v := (-1 : Int32)) hx hb dX5_form_39 (by decide) ?_
          cases hf
          exact W.iret (v := (-1 : Int32)) hx hb hr (fun t ht hW => ⟨⟨_, (), rfl, rfl, by rw [ht]; exact hP, hD⟩, hS.F ht⟩) hS.2.2 dX5_form_40
        · have hf := ite_f hf c_8
          refine lv_lload hx hb dX5_form_30 (lv_at hl 4 rfl) ?_
          refine lv_iload_n hx hb dX5_form_32 rfl (lv_at hl 1 rfl) ?_
          obtain ⟨r_9, h_10, hf⟩ := bind_some hf
          have hP_r_9 : va_P D vwCl [] s.heap := hP.sub [] rfl
          refine cz_i (va_runS (As := [.long x6, .int x1]) (rest := []) ⟨hx, hb, hml, hown, hts⟩ (ctX5_hasBits l D cy N   x6 x1 r_9 h_10) (va_cwS 2 hts gX5_form_X5_hasBits rfl rfl rfl (by decide +kernel) ⟨Nat.le_of_ble_eq_true rfl, Nat.le_of_ble_eq_true rfl⟩) (preS_rd [.long x6, .int x1] hP_r_9 hB) rfl rfl hl.1 rfl (lv_room (Nat.le_of_ble_eq_true rfl)) dX5_form_33 ⟨Nat.zero_le _, Nat.zero_le _⟩) ?_
          refine lv_if_ne (tgt := 41) hx hb dX5_form_36 (by decide) (fun c_11 => ?_) (fun c_11 => ?_)
          · have hf := ite_f hf c_11
            refine lv_lload_n hx hb dX5_form_41 rfl (lv_at hl 2 rfl) ?_
            refine lv_lconst (v := (1 : Int64)) hx hb dX5_form_42 (by decide) ?_
            refine lv_land hx hb dX5_form_43 ?_
            refine lv_lconst (v := (0 : Int64)) hx hb dX5_form_44 (by decide) ?_
            refine zz_lc_ne (tgt := 51) hx hb dX5_form_45 dX5_form_46 (by decide) (fun c_12 => ?_) (fun c_12 => ?_)
            · have hf := ite_f hf c_12
              refine lv_aload_n hx hb dX5_form_51 rfl (lv_at hl 0 rfl) ?_
              refine va_get (D := D) (ci := 4) (v := .int sC) (C := RX5) (T := TX5) (N := 5) hx hb hts inX5_form_X5 hown hK hP 0 rfl rfl 3 (by decide) (hts _ mX5_form_0) (fun _ h9 => h9) rfl dX5_form_52 ?_
              refine lv_bipush (v := (8 : Int32)) hx hb dX5_form_55 (by decide) ?_
              refine lv_icmp_lt (tgt := 63) hx hb dX5_form_57 (by decide) (fun c_13 => ?_) (fun c_13 => ?_)
              · have hf := ite_t hf c_13
                refine lv_aload_n hx hb dX5_form_63 rfl (lv_at hl 0 rfl) ?_
                refine va_get (D := D) (ci := 4) (v := .ref hsq) (C := RX5) (T := TX5) (N := 5) hx hb hts inX5_form_X5 hown hK hP 0 rfl rfl 2 (by decide) (hts _ mX5_form_1) (fun _ h9 => h9) rfl dX5_form_64 ?_
                refine lv_aload_n hx hb dX5_form_67 rfl (lv_at hl 0 rfl) ?_
                refine va_get (D := D) (ci := 4) (v := .int sC) (C := RX5) (T := TX5) (N := 5) hx hb hts inX5_form_X5 hown hK hP 0 rfl rfl 3 (by decide) (hts _ mX5_form_0) (fun _ h9 => h9) rfl dX5_form_68 ?_
                obtain ⟨b_14, hf⟩ := ite_n hf
                refine zz_aald hx hb hK hP 1 3 rfl rfl b_14 (hQ b_14) dX5_form_71 ?_
                refine lv_iload_n hx hb dX5_form_72 rfl (lv_at hl 1 rfl) ?_
                refine lv_lload_n hx hb dX5_form_73 rfl (lv_at hl 2 rfl) ?_
                refine lv_lload hx hb dX5_form_74 (lv_at hl 3 rfl) ?_
                refine lv_lload hx hb dX5_form_76 (lv_at hl 4 rfl) ?_
                refine lv_iload hx hb dX5_form_78 (lv_at hl 5 rfl) ?_
                refine lv_iload hx hb dX5_form_80 (lv_at hl 6 rfl) ?_
                obtain ⟨r_15, h_16, hf⟩ := bind_some hf
                have hP_r_15 : va_P D vwCl [(hfo, .inr (1, [.int rw, .long rg, .long rs, .long re, .int ri, .int ro, .ref hfa, .ref hun]))] s.heap := hP.sub [2] rfl
                have hD_r_15 : va_D A [(hfo, .inr (1, [.int rw, .long rg, .long rs, .long re, .int ri, .int ro, .ref hfa, .ref hun]))] := hD.sub [2] (by decide) rfl
                refine cj_v (wc := [(hfo, .inr (1, [.int rw, .long rg, .long rs, .long re, .int ri, .int ro, .ref hfa, .ref hun]))]) (wr := [(hsf, .inr (4, [.ref hst, .int sN, .ref hsq, .int sC, .ref hre])), (hsq, .inl (cy 3, 8, .inr (.inr (.inr (.inr sQ)))))]) (w1 := [(hfo, .inr (1, [.int r_15.1, .long r_15.2.1, .long r_15.2.2.1, .long r_15.2.2.2.1, .int r_15.2.2.2.2.1, .int r_15.2.2.2.2.2, .ref hfa, .ref hun]))]) [2] [0, 1] (va_runVN (As := [.int x1, .long x2, .long x4, .long x6, .int x8, .int x9]) (rest := []) ⟨hx, hb, hml, hown, hts⟩ (ctX1_become l D cy N hfo hfa hun s.heap.size rw rg rs re ri ro x1 x2 x4 x6 x8 x9 r_15 hz_x8 hz_x9 h_16) ⟨va_cnB 6 hts gX5_form_X1_become_n38 rfl rfl rfl (nwX5_38 hN) (hts _ mX5_form_2) (by decide +kernel) ⟨Nat.le_of_ble_eq_true rfl, Nat.le_of_ble_eq_true rfl⟩, hts _ mX5_form_3, hts _ mX5_form_4⟩ (preV_wr (ci := 1) (q0 := 0) [.int x1, .long x2, .long x4, .long x6, .int x8, .int x9] hP_r_15 hD_r_15 hB rfl rfl) rfl rfl hl.1 rfl (lv_room (Nat.le_of_ble_eq_true rfl)) dX5_form_82 ⟨Nat.zero_le _, Nat.zero_le _⟩) hP hD hS hA rfl rfl (by decide) (by decide) (fun H17 locs18 hP hD hS => ?_)
                have hP : va_P D vwCl [(hsf, .inr (4, [.ref hst, .int sN, .ref hsq, .int sC, .ref hre])), (hsq, .inl (cy 3, 8, .inr (.inr (.inr (.inr sQ))))), (hfo, .inr (1, [.int r_15.1, .long r_15.2.1, .long r_15.2.2.1, .long r_15.2.2.2.1, .int r_15.2.2.2.2.1, .int r_15.2.2.2.2.2, .ref hfa, .ref hun]))] H17 := hP.sub [0, 1, 2] rfl
                have hD : va_D A [(hsf, .inr (4, [.ref hst, .int sN, .ref hsq, .int sC, .ref hre])), (hsq, .inl (cy 3, 8, .inr (.inr (.inr (.inr sQ))))), (hfo, .inr (1, [.int r_15.1, .long r_15.2.1, .long r_15.2.2.1, .long r_15.2.2.2.1, .int r_15.2.2.2.2.1, .int r_15.2.2.2.2.2, .ref hfa, .ref hun]))] := hD.sub [0, 1, 2] (by decide) rfl
                refine lv_aload_n hx hb dX5_form_85 rfl (lv_at hl 0 rfl) ?_
                refine lv_dup hx hb dX5_form_86 rfl ?_
                refine va_get (D := D) (ci := 4) (v := .int sC) (C := RX5) (T := TX5) (N := 5) hx hb hts inX5_form_X5 hown hK hP 0 rfl rfl 3 (by decide) (hts _ mX5_form_0) (fun _ h9 => h9) rfl dX5_form_87 ?_
                refine lv_iconst (v := (1 : Int32)) hx hb dX5_form_90 (by decide) ?_
                refine lv_iadd hx hb dX5_form_91 ?_
                refine va_put (D := D) (ci := 4) (v := .int (sC + (1 : Int32))) (ty := .int) (C := RX5) (T := TX5) (N := 5) hx hb hts inX5_form_X5 tyX5 tyX5_ok nmX5 hown hK hP hD hS 0 rfl rfl 3 (by decide) (hts _ mX5_form_0) (fun _ h9 => h9) rfl (by decide +kernel) rfl rfl (Nat.le_of_ble_eq_true rfl) dX5_form_92 (fun H19 locs20 hP hD hS => ?_)
                have hP : va_P D vwCl [(hsf, .inr (4, [.ref hst, .int sN, .ref hsq, .int (sC + (1 : Int32)), .ref hre])), (hsq, .inl (cy 3, 8, .inr (.inr (.inr (.inr sQ))))), (hfo, .inr (1, [.int r_15.1, .long r_15.2.1, .long r_15.2.2.1, .long r_15.2.2.2.1, .int r_15.2.2.2.2.1, .int r_15.2.2.2.2.2, .ref hfa, .ref hun]))] H19 := hP
                have hD : va_D A [(hsf, .inr (4, [.ref hst, .int sN, .ref hsq, .int (sC + (1 : Int32)), .ref hre])), (hsq, .inl (cy 3, 8, .inr (.inr (.inr (.inr sQ))))), (hfo, .inr (1, [.int r_15.1, .long r_15.2.1, .long r_15.2.2.1, .long r_15.2.2.2.1, .int r_15.2.2.2.2.1, .int r_15.2.2.2.2.2, .ref hfa, .ref hun]))] := hD
                refine lv_aload_n hx hb dX5_form_95 rfl (lv_at hl 0 rfl) ?_
                refine va_get (D := D) (ci := 4) (v := .int (sC + (1 : Int32))) (C := RX5) (T := TX5) (N := 5) hx hb hts inX5_form_X5 hown hK hP 0 rfl rfl 3 (by decide) (hts _ mX5_form_0) (fun _ h9 => h9) rfl dX5_form_96 ?_
                refine lv_iconst (v := (1 : Int32)) hx hb dX5_form_99 (by decide) ?_
                refine lv_isub hx hb dX5_form_100 ?_
                cases hf
                exact W.iret (v := ((sC + (1 : Int32)) - (1 : Int32))) hx hb hr (fun t ht hW => ⟨⟨_, (), rfl, rfl, by rw [ht]; exact hP, hD⟩, hS.F ht⟩) hS.2.2 dX5_form_101
              · have hf := ite_f hf c_13
                refine lv_bipush (v := (-2 : Int32)) hx hb dX5_form_60 (by decide) ?_
                cases hf
                exact W.iret (v := (-2 : Int32)) hx hb hr (fun t ht hW => ⟨⟨_, (), rfl, rfl, by rw [ht]; exact hP, hD⟩, hS.F ht⟩) hS.2.2 dX5_form_62
            · have hf := ite_t hf c_12
              refine lv_iconst (v := (-1 : Int32)) hx hb dX5_form_49 (by decide) ?_
              cases hf
              exact W.iret (v := (-1 : Int32)) hx hb hr (fun t ht hW => ⟨⟨_, (), rfl, rfl, by rw [ht]; exact hP, hD⟩, hS.F ht⟩) hS.2.2 dX5_form_50
          · have hf := ite_t hf c_11
            refine lv_iconst (v := (-1 : Int32)) hx hb dX5_form_39 (by decide) ?_
            cases hf
            exact W.iret (v := (-1 : Int32)) hx hb hr (fun t ht hW => ⟨⟨_, (), rfl, rfl, by rw [ht]; exact hP, hD⟩, hS.F ht⟩) hS.2.2 dX5_form_40
    · have hf := ite_f hf c_2
      refine lv_iconst (v := (-1 : Int32)) hx hb dX5_form_11 (by decide) ?_
      cases hf
      exact W.iret (v := (-1 : Int32)) hx hb hr (fun t ht hW => ⟨⟨_, (), rfl, rfl, by rw [ht]; exact hP, hD⟩, hS.F ht⟩) hS.2.2 dX5_form_12
/-! SumForms.joined(IJJJ)J -/
abbrev rX5_joined : Room := { frames := 3, cells := 0, slots := 0, locals := 84 }
theorem mX5_joined_0 : Cond.constantLong RX5 50 (-1) ∈ wsX5_joined := by decide +kernel
theorem mX5_joined_1 : Cond.fieldLink RX5 19 "SumForms" "forms" "[LSumForms$Form;" ∈ wsX5_joined := by decide +kernel
theorem mX5_joined_2 : Cond.initialized RX1 ∈ wsX5_joined := by decide +kernel
theorem mX5_joined_3 : Cond.instanceMethod yX1_registerOf ∈ wsX5_joined := by decide +kernel
theorem mX5_joined_4 : Cond.selects RX1 yX1_registerOf yX1_registerOf ∈ wsX5_joined := by decide +kernel
theorem mX5_joined_5 : Cond.instanceMethod yX1_movedByOctets ∈ wsX5_joined := by decide +kernel
theorem mX5_joined_6 : Cond.selects RX1 yX1_movedByOctets yX1_movedByOctets ∈ wsX5_joined := by decide +kernel
theorem mX5_joined_7 : Cond.instanceMethod yX1_sumOf ∈ wsX5_joined := by decide +kernel
theorem mX5_joined_8 : Cond.selects RX1 yX1_sumOf yX1_sumOf ∈ wsX5_joined := by decide +kernel
theorem inX5_joined_X1 : ∀ w ∈ u_ws RX1 TX1 8, w ∈ wsX5_joined := by decide +kernel
theorem inX5_joined_X5 : ∀ w ∈ u_ws RX5 TX5 5, w ∈ wsX5_joined := by decide +kernel
abbrev GX5_joined (p : Program) (l : Launch) (e : Env) (s : State) (m : MethodId) (args : Array Value) (below : List Frame) (meth : Method) (c : Code) (r0 : Int64) (fr : JFrame) : Prop := W p l e (headSpec wsX5_joined rX5_joined).room s m args below meth c s.heap [] 0 0 (MQ below (vp_Sl (fun r => r = r0)) args s 0 0 (fun _ => False)) fr
def fX5_joined (N : Nat) (sC : Int32) (rw : Int32) (rg : Int64) (rs : Int64) (re : Int64) (ro : Int32) (x1 : Int32) (x2 : Int64) (x4 : Int64) (x6 : Int64) : Option (Int64) := ((fX5_isSum N sC rw x1 x2).bind (fun r_1 => (if r_1 = 0 then (some (-1 : Int64)) else ((fX5_isSum N sC rw x1 x4).bind (fun r_4 => (if r_4 = 0 then (some (-1 : Int64)) else ((fX5_isLength N x6).bind (fun r_7 => (if r_7 = 0 then (some (-1 : Int64)) else (if OOB x1 8 then none else ((fX1_registerOf N rw re ro x2).bind (fun r_11 => ((fX1_movedByOctets N rw rg (r_11 ^^^ rs) x6).bind (fun r_13 => ((fX1_registerOf N rw re ro x4).bind (fun r_15 => ((fX1_sumOf N rw re ro (r_15 ^^^ r_13)).bind (fun r_17 => (some r_17)))))))))))))))))))
set_option maxHeartbeats 4000000 in
set_option maxRecDepth 100000 in
theorem ctX5_joined (l : Launch) (D : va_G) (cy : Nat → ClassId) (N : Nat) (hsf hst hsq hre hfo hfa hun : Nat) (sN : Int32) (sC : Int32) (sQ : Nat → Option Nat) (rw : Int32) (rg : Int64) (rs : Int64) (re : Int64) (ri : Int32) (ro : Int32) (x1 : Int32) (x2 : Int64) (x4 : Int64) (x6 : Int64) (r0 : Int64) (hQ : vp_in x1 8 → sQ x1.toNatClampNeg = some hfo) (hf : fX5_joined N sC rw rg rs re ro x1 x2 x4 x6 = some r0) : Met l yX5_joined wsX5_joined rX5_joined (va_Pc [.ref hsf, .int x1, .long x2, .long x4, .long x6] (Rd D cy [(hsf, .inr (4, [.ref hst, .int sN, .ref hsq, .int sC, .ref hre])), (hsq, .inl (cy 3, 8, .inr (.inr (.inr (.inr sQ))))), (hfo, .inr (1, [.int rw, .long rg, .long rs, .long re, .int ri, .int ro, .ref hfa, .ref hun]))])) (vp_Sl (fun r => r = r0)) 0 0 (fun _ => False) := by
  refine Met.ofW (cc := cX5_joined) (maxL := 11) (ret := (some .long)) (by decide) rfl ?_
  intro p e s m args below meth c s₁ B hml hv
  obtain ⟨rfl, hP, hB⟩ := hv
  have hx := B.exec
  have hb := B.bytes
  have hr := B.returns
  have hts := atoms_spec (ws := wsX5_joined) B.pre
  have hown : s.vm.findClass RX5 = some m.cls := findClass_of_methodNamed B.named
  have hlocks := B.notSynchronized
  have hK := hB.1
  have hN := hB.2
  have hl := lv_entry ([.ref hsf, .int x1, .long x2, .long x4, .long x6]) (n := 11) (Nat.le_of_ble_eq_true rfl)
  rw [lg_entry_eq]
  generalize (lg_sl ([.ref hsf, .int x1, .long x2, .long x4, .long x6]) ++ List.replicate (11 - (lg_sl ([.ref hsf, .int x1, .long x2, .long x4, .long x6])).length) Slot.unset).toArray = ls at hl ⊢
  have hl : lv_has ls 11 [(0, .ref hsf), (1, .int x1), (2, .long x2), (4, .long x4), (6, .long x6)] := hl
  have E0 : En p m c cX5_joined 11 s ([.ref hsf, .int x1, .long x2, .long x4, .long x6] : List Value).toArray wsX5_joined RX5 meth (some .long) D cy := ⟨⟨hx, hb, hml, hown, hts⟩, hr, hlocks, hB⟩
  unfold fX5_joined at hf
  refine lv_aload_n hx hb dX5_joined_0 rfl (lv_at hl 0 rfl) ?_
  refine lv_iload_n hx hb dX5_joined_1 rfl (lv_at hl 1 rfl) ?_
  refine lv_lload_n hx hb dX5_joined_2 rfl (lv_at hl 2 rfl) ?_
  obtain ⟨r_1, h_2, hf⟩ := bind_some hf
  have hP_r_1 : va_P D vwCl [(hsf, .inr (4, [.ref hst, .int sN, .ref hsq, .int sC, .ref hre])), (hsq, .inl (cy 3, 8, .inr (.inr (.inr (.inr sQ))))), (hfo, .inr (1, [.int rw, .long rg, .long rs, .long re, .int ri, .int ro, .ref hfa, .ref hun]))] s.heap := hP.sub [0, 1, 2] rfl
  refine cz_i (va_runV (As := [.int x1, .long x2]) (rest := []) ⟨hx, hb, hml, hown, hts⟩ (ctX5_isSum l D cy N hsf hst hsq hre hfo hfa hun sN sC sQ rw rg rs re ri ro x1 x2 r_1 hQ h_2) (cwV 2 hts gX5_joined_X5_isSum rfl rfl rfl (by decide +kernel) ⟨Nat.le_of_ble_eq_true rfl, Nat.le_of_ble_eq_true rfl⟩) (preV_rd (ci := 4) (q0 := 0) [.int x1, .long x2] hP_r_1 hB rfl rfl) rfl rfl hl.1 rfl (lv_room (Nat.le_of_ble_eq_true rfl)) dX5_joined_3 ⟨Nat.zero_le _, Nat.zero_le _⟩) ?_
  refine lv_if_eq (tgt := 27) hx hb dX5_joined_6 (by decide) (fun c_3 => ?_) (fun c_3 => ?_)
  · have hf := ite_t hf c_3
    refine lv_ldc2 (v := (-1 : Int64)) hx hb hown (hts _ mX5_joined_0) dX5_joined_27 ?_
    exact W.lret (v := (-1 : Int64)) hx hb hr (fun t ht hW => ⟨_, rfl, Option.some.inj hf, ht⟩) (fun _ h => absurd h List.not_mem_nil) dX5_joined_30
  · have hf := ite_f hf c_3
    refine lv_aload_n hx hb dX5_joined_9 rfl (lv_at hl 0 rfl) ?_
    refine lv_iload_n hx hb dX5_joined_10 rfl (lv_at hl 1 rfl) ?_
    refine lv_lload hx hb dX5_joined_11 (lv_at hl 3 rfl) ?_
    obtain ⟨r_4, h_5, hf⟩ := bind_some hf
    have hP_r_4 : va_P D vwCl [(hsf, .inr (4, [.ref hst, .int sN, .ref hsq, .int sC, .ref hre])), (hsq, .inl (cy 3, 8, .inr (.inr (.inr (.inr sQ))))), (hfo, .inr (1, [.int rw, .long rg, .long rs, .long re, .int ri, .int ro, .ref hfa, .ref hun]))] s.heap := hP.sub [0, 1, 2] rfl
    refine cz_i (va_runV (As := [.int x1, .long x4]) (rest := []) ⟨hx, hb, hml, hown, hts⟩ (ctX5_isSum l D cy N hsf hst hsq hre hfo hfa hun sN sC sQ rw rg rs re ri ro x1 x4 r_4 hQ h_5) (cwV 2 hts gX5_joined_X5_isSum rfl rfl rfl (by decide +kernel) ⟨Nat.le_of_ble_eq_true rfl, Nat.le_of_ble_eq_true rfl⟩) (preV_rd (ci := 4) (q0 := 0) [.int x1, .long x4] hP_r_4 hB rfl rfl) rfl rfl hl.1 rfl (lv_room (Nat.le_of_ble_eq_true rfl)) dX5_joined_13 ⟨Nat.zero_le _, Nat.zero_le _⟩) ?_
    refine lv_if_eq (tgt := 27) hx hb dX5_joined_16 (by decide) (fun c_6 => ?_) (fun c_6 => ?_)
    · have hf := ite_t hf c_6
      refine lv_ldc2 (v := (-1 : Int64)) hx hb hown (hts _ mX5_joined_0) dX5_joined_27 ?_
      exact W.lret (v := (-1 : Int64)) hx hb hr (fun t ht hW => ⟨_, rfl, Option.some.inj hf, ht⟩) (fun _ h => absurd h List.not_mem_nil) dX5_joined_30
    · have hf := ite_f hf c_6
      refine lv_lload hx hb dX5_joined_19 (lv_at hl 4 rfl) ?_
      obtain ⟨r_7, h_8, hf⟩ := bind_some hf
      have hP_r_7 : va_P D vwCl [] s.heap := hP.sub [] rfl
      refine cz_i (va_runS (As := [.long x6]) (rest := []) ⟨hx, hb, hml, hown, hts⟩ (ctX5_isLength l D cy N   x6 r_7 h_8) (va_cwS 1 hts gX5_joined_X5_isLength rfl rfl rfl (by decide +kernel) ⟨Nat.le_of_ble_eq_true rfl, Nat.le_of_ble_eq_true rfl⟩) (preS_rd [.long x6] hP_r_7 hB) rfl rfl hl.1 rfl (lv_room (Nat.le_of_ble_eq_true rfl)) dX5_joined_21 ⟨Nat.zero_le _, Nat.zero_le _⟩) ?_
      refine lv_if_ne (tgt := 31) hx hb dX5_joined_24 (by decide) (fun c_9 => ?_) (fun c_9 => ?_)
      · have hf := ite_f hf c_9
        refine lv_aload_n hx hb dX5_joined_31 rfl (lv_at hl 0 rfl) ?_
        refine va_get (D := D) (ci := 4) (v := .ref hsq) (C := RX5) (T := TX5) (N := 5) hx hb hts inX5_joined_X5 hown hK hP 0 rfl rfl 2 (by decide) (hts _ mX5_joined_1) (fun _ h9 => h9) rfl dX5_joined_32 ?_
        refine lv_iload_n hx hb dX5_joined_35 rfl (lv_at hl 1 rfl) ?_
        obtain ⟨b_10, hf⟩ := ite_n hf
        refine zz_aald hx hb hK hP 1 3 rfl rfl b_10 (hQ b_10) dX5_joined_36 ?_
        refine lv_astore (lv' := [(8, .ref hfo), (0, .ref hsf), (1, .int x1), (2, .long x2), (4, .long x4), (6, .long x6)]) hx hb dX5_joined_37 hl (by decide) rfl (fun ls hl => ?_)
        refine lv_aload hx hb dX5_joined_39 (lv_at hl 0 rfl) ?_
        refine lv_aload hx hb dX5_joined_41 (lv_at hl 0 rfl) ?_
        refine lv_lload_n hx hb dX5_joined_43 rfl (lv_at hl 3 rfl) ?_
        obtain ⟨r_11, h_12, hf⟩ := bind_some hf
        have hP_r_11 : va_P D vwCl [(hfo, .inr (1, [.int rw, .long rg, .long rs, .long re, .int ri, .int ro, .ref hfa, .ref hun]))] s.heap := hP.sub [2] rfl
        refine cz_l (va_runVN (As := [.long x2]) (rest := [.ref hfo]) ⟨hx, hb, hml, hown, hts⟩ (ctX1_registerOf l D cy N hfo hfa hun rw rg rs re ri ro x2 r_11 h_12) ⟨va_cnB 1 hts gX5_joined_X1_registerOf_n72 rfl rfl rfl (nwX5_72 hN) (hts _ mX5_joined_2) (by decide +kernel) ⟨Nat.le_of_ble_eq_true rfl, Nat.le_of_ble_eq_true rfl⟩, hts _ mX5_joined_3, hts _ mX5_joined_4⟩ (preV_rd (ci := 1) (q0 := 0) [.long x2] hP_r_11 hB rfl rfl) rfl rfl hl.1 rfl (lv_room (Nat.le_of_ble_eq_true rfl)) dX5_joined_44 ⟨Nat.zero_le _, Nat.zero_le _⟩) ?_
        refine lv_aload hx hb dX5_joined_47 (lv_at hl 0 rfl) ?_
        refine va_getN (D := D) (ci := 1) (v := .long rs) (C := RX1) (T := TX1) (N := 8) hx hb hts inX5_joined_X1 hown hK hP 2 rfl rfl 2 (by decide) (va_Nw.use rfl (nwX5_52 hN)) (fun _ h9 => h9) rfl dX5_joined_49 ?_
        refine lv_lxor hx hb dX5_joined_52 ?_
        refine lv_lload hx hb dX5_joined_53 (lv_at hl 5 rfl) ?_
        obtain ⟨r_13, h_14, hf⟩ := bind_some hf
        have hP_r_13 : va_P D vwCl [(hfo, .inr (1, [.int rw, .long rg, .long rs, .long re, .int ri, .int ro, .ref hfa, .ref hun]))] s.heap := hP.sub [2] rfl
        refine cz_l (va_runVN (As := [.long (r_11 ^^^ rs), .long x6]) (rest := []) ⟨hx, hb, hml, hown, hts⟩ (ctX1_movedByOctets l D cy N hfo hfa hun rw rg rs re ri ro (r_11 ^^^ rs) x6 r_13 h_14) ⟨va_cnB 2 hts gX5_joined_X1_movedByOctets_n75 rfl rfl rfl (nwX5_75 hN) (hts _ mX5_joined_2) (by decide +kernel) ⟨Nat.le_of_ble_eq_true rfl, Nat.le_of_ble_eq_true rfl⟩, hts _ mX5_joined_5, hts _ mX5_joined_6⟩ (preV_rd (ci := 1) (q0 := 0) [.long (r_11 ^^^ rs), .long x6] hP_r_13 hB rfl rfl) rfl rfl hl.1 rfl (lv_room (Nat.le_of_ble_eq_true rfl)) dX5_joined_55 ⟨Nat.zero_le _, Nat.zero_le _⟩) ?_
        refine lv_lstore (lv' := [(9, .long r_13), (8, .ref hfo), (0, .ref hsf), (1, .int x1), (2, .long x2), (4, .long x4), (6, .long x6)]) hx hb dX5_joined_58 hl (by decide) rfl (fun ls hl => ?_)
        refine lv_aload hx hb dX5_joined_60 (lv_at hl 1 rfl) ?_
        refine lv_aload hx hb dX5_joined_62 (lv_at hl 1 rfl) ?_
        refine lv_lload hx hb dX5_joined_64 (lv_at hl 5 rfl) ?_
        obtain ⟨r_15, h_16, hf⟩ := bind_some hf
        have hP_r_15 : va_P D vwCl [(hfo, .inr (1, [.int rw, .long rg, .long rs, .long re, .int ri, .int ro, .ref hfa, .ref hun]))] s.heap := hP.sub [2] rfl
        refine cz_l (va_runVN (As := [.long x4]) (rest := [.ref hfo]) ⟨hx, hb, hml, hown, hts⟩ (ctX1_registerOf l D cy N hfo hfa hun rw rg rs re ri ro x4 r_15 h_16) ⟨va_cnB 1 hts gX5_joined_X1_registerOf_n72 rfl rfl rfl (nwX5_72 hN) (hts _ mX5_joined_2) (by decide +kernel) ⟨Nat.le_of_ble_eq_true rfl, Nat.le_of_ble_eq_true rfl⟩, hts _ mX5_joined_3, hts _ mX5_joined_4⟩ (preV_rd (ci := 1) (q0 := 0) [.long x4] hP_r_15 hB rfl rfl) rfl rfl hl.1 rfl (lv_room (Nat.le_of_ble_eq_true rfl)) dX5_joined_66 ⟨Nat.zero_le _, Nat.zero_le _⟩) ?_
        refine lv_lload hx hb dX5_joined_69 (lv_at hl 0 rfl) ?_
        refine lv_lxor hx hb dX5_joined_71 ?_
        obtain ⟨r_17, h_18, hf⟩ := bind_some hf
        have hP_r_17 : va_P D vwCl [(hfo, .inr (1, [.int rw, .long rg, .long rs, .long re, .int ri, .int ro, .ref hfa, .ref hun]))] s.heap := hP.sub [2] rfl
        refine cz_l (va_runVN (As := [.long (r_15 ^^^ r_13)]) (rest := []) ⟨hx, hb, hml, hown, hts⟩ (ctX1_sumOf l D cy N hfo hfa hun rw rg rs re ri ro (r_15 ^^^ r_13) r_17 h_18) ⟨va_cnB 1 hts gX5_joined_X1_sumOf_n60 rfl rfl rfl (nwX5_60 hN) (hts _ mX5_joined_2) (by decide +kernel) ⟨Nat.le_of_ble_eq_true rfl, Nat.le_of_ble_eq_true rfl⟩, hts _ mX5_joined_7, hts _ mX5_joined_8⟩ (preV_rd (ci := 1) (q0 := 0) [.long (r_15 ^^^ r_13)] hP_r_17 hB rfl rfl) rfl rfl hl.1 rfl (lv_room (Nat.le_of_ble_eq_true rfl)) dX5_joined_72 ⟨Nat.zero_le _, Nat.zero_le _⟩) ?_
        exact W.lret (v := r_17) hx hb hr (fun t ht hW => ⟨_, rfl, Option.some.inj hf, ht⟩) (fun _ h => absurd h List.not_mem_nil) dX5_joined_75
      · have hf := ite_t hf c_9
        refine lv_ldc2 (v := (-1 : Int64)) hx hb hown (hts _ mX5_joined_0) dX5_joined_27 ?_
        exact W.lret (v := (-1 : Int64)) hx hb hr (fun t ht hW => ⟨_, rfl, Option.some.inj hf, ht⟩) (fun _ h => absurd h List.not_mem_nil) dX5_joined_30

/-! SumForms$Factors.withoutPrime(JIJ)J -/
abbrev rX0_withoutPrime : Room := { frames := 3, cells := 0, slots := 0, locals := 82 }
theorem mX0_withoutPrime_0 : Cond.initialized RX2 ∈ wsX0_withoutPrime := by decide +kernel
theorem mX0_withoutPrime_1 : Cond.static yX2_powerOfX ∈ wsX0_withoutPrime := by decide +kernel
abbrev GX0_withoutPrime (p : Program) (l : Launch) (e : Env) (s : State) (m : MethodId) (args : Array Value) (below : List Frame) (meth : Method) (c : Code) (r0 : Int64) (fr : JFrame) : Prop := W p l e (headSpec wsX0_withoutPrime rX0_withoutPrime).room s m args below meth c s.heap [] 0 0 (MQ below (vp_Sl (fun r => r = r0)) args s 0 0 (fun _ => False)) fr
def fX0_withoutPrime_B6 (N : Nat) (x2 : Int32) (x3 : Int64) (self : Int64 → Int32 → Option (Int64)) (k : Int64 → Option (Int64)) (x5 : Int64) (x7 : Int32) : Option (Int64) := (if (32 : Int32) ≤ x7 then (k x5) else (if x2.toInt64 = 0 then none else (if (lRem x5 x2.toInt64) = (0 : Int64) then (if x2.toInt64 = 0 then none else ((fX2_powerOfX N (x5 / x2.toInt64) x3).bind (fun r_5 => (if r_5 = (1 : Int64) then (if x2.toInt64 = 0 then none else (self (x5 / x2.toInt64) (x7 + (1 : Int32)))) else (k x5))))) else (k x5))))
def fX0_withoutPrime_L6 (N : Nat) (x2 : Int32) (x3 : Int64) (k : Int64 → Option (Int64)) : Nat → Int64 → Int32 → Option (Int64)
  | 0 => fun _ _ => none
  | n + 1 => fun x5 x7 => fX0_withoutPrime_B6 N x2 x3 (fX0_withoutPrime_L6 N x2 x3 k n) k x5 x7
def fX0_withoutPrime (N : Nat)  (x0 : Int64) (x2 : Int32) (x3 : Int64) : Option (Int64) := (fX0_withoutPrime_L6 N x2 x3 (fun x5_9 => (some x5_9)) N x0 (0 : Int32))
set_option maxHeartbeats 4000000 in
set_option maxRecDepth 100000 in
theorem wX0_withoutPrime_B6 {p : Program} {l : Launch} {e : Env} {s : State} {m : MethodId} {args : Array Value} {below : List Frame} {meth : Method} {c : Code} {D : va_G} {cy : Nat → ClassId} {r0 : Int64} (E0 : En p m c cX0_withoutPrime 8 s args wsX0_withoutPrime RX0 meth (some .long) D cy) (N : Nat) (x2 : Int32) (x3 : Int64) (hP : va_P D vwCl [] s.heap) (self : Int64 → Int32 → Option (Int64)) (hself : ∀ (x5 : Int64) (x7 : Int32) (ls : Array Slot), lv_has ls 8 [(2, .int x2), (3, .long x3), (5, .long x5), (7, .int x7)] → self x5 x7 = some r0 → GX0_withoutPrime p l e s m args below meth c r0 (F0 m 6 ls [])) (k : Int64 → Option (Int64)) (hk : ∀ (x5 : Int64) (ls : Array Slot), lv_has ls 8 [(5, .long x5)] → k x5 = some r0 → GX0_withoutPrime p l e s m args below meth c r0 (F0 m 53 ls [])) : ∀ (x5 : Int64) (x7 : Int32) (ls : Array Slot), lv_has ls 8 [(2, .int x2), (3, .long x3), (5, .long x5), (7, .int x7)] → fX0_withoutPrime_B6 N x2 x3 self k x5 x7 = some r0 → GX0_withoutPrime p l e s m args below meth c r0 (F0 m 6 ls []) := by
  obtain ⟨⟨hx, hb, hml, hown, hts⟩, hr, hlocks, hB⟩ := id E0
  have hK := hB.1
  have hN := hB.2
  intro x5 x7 ls hl hf
  unfold fX0_withoutPrime_B6 at hf
  refine lv_iload hx hb dX0_withoutPrime_6 (lv_at hl 3 rfl) ?_
  refine lv_bipush (v := (32 : Int32)) hx hb dX0_withoutPrime_8 (by decide) ?_
  refine lv_icmp_ge (tgt := 53) hx hb dX0_withoutPrime_10 (by decide) (fun c_1 => ?_) (fun c_1 => ?_)
  · have hf := ite_t hf c_1
    exact hk _ _ (lv_sub hl [2] rfl) hf
  · have hf := ite_f hf c_1
    refine lv_lload hx hb dX0_withoutPrime_13 (lv_at hl 2 rfl) ?_
    refine lv_iload_n hx hb dX0_withoutPrime_15 rfl (lv_at hl 0 rfl) ?_
    refine lv_i2l (v := x2.toInt64) hx hb dX0_withoutPrime_16 rfl ?_
    obtain ⟨z_2, hf⟩ := ite_n hf
    refine zz_lrem hx hb dX0_withoutPrime_17 z_2 ?_
    refine lv_lconst (v := (0 : Int64)) hx hb dX0_withoutPrime_18 (by decide) ?_
    refine zz_lc_ne (tgt := 53) hx hb dX0_withoutPrime_19 dX0_withoutPrime_20 (by decide) (fun c_3 => ?_) (fun c_3 => ?_)
    · have hf := ite_f hf c_3
      exact hk _ _ (lv_sub hl [2] rfl) hf
    · have hf := ite_t hf c_3
      refine lv_lload hx hb dX0_withoutPrime_23 (lv_at hl 2 rfl) ?_
      refine lv_iload_n hx hb dX0_withoutPrime_25 rfl (lv_at hl 0 rfl) ?_
      refine lv_i2l (v := x2.toInt64) hx hb dX0_withoutPrime_26 rfl ?_
      obtain ⟨z_4, hf⟩ := ite_n hf
      refine lv_ldiv hx hb dX0_withoutPrime_27 z_4 ?_
      refine lv_lload_n hx hb dX0_withoutPrime_28 rfl (lv_at hl 1 rfl) ?_
      obtain ⟨r_5, h_6, hf⟩ := bind_some hf
      have hP_r_5 : va_P D vwCl [] s.heap := hP.sub [] rfl
      refine cz_l (va_runSN (As := [.long (x5 / x2.toInt64), .long x3]) (rest := []) ⟨hx, hb, hml, hown, hts⟩ (ctX2_powerOfX l D cy N   (x5 / x2.toInt64) x3 r_5 h_6) ⟨va_cnB 2 hts gX0_withoutPrime_X2_powerOfX_n93 rfl rfl rfl (nwX0_93 hN) (hts _ mX0_withoutPrime_0) (by decide +kernel) ⟨Nat.le_of_ble_eq_true rfl, Nat.le_of_ble_eq_true rfl⟩, hts _ mX0_withoutPrime_1, trivial⟩ (preS_rd [.long (x5 / x2.toInt64), .long x3] hP_r_5 hB) rfl rfl hl.1 rfl (lv_room (Nat.le_of_ble_eq_true rfl)) dX0_withoutPrime_29 ⟨Nat.zero_le _, Nat.zero_le _⟩) ?_
      refine lv_lconst (v := (1 : Int64)) hx hb dX0_withoutPrime_32 (by decide) ?_
      refine zz_lc_eq (tgt := 40) hx hb dX0_withoutPrime_33 dX0_withoutPrime_34 (by decide) (fun c_7 => ?_) (fun c_7 => ?_)
      · have hf := ite_t hf c_7
        refine lv_lload hx hb dX0_withoutPrime_40 (lv_at hl 2 rfl) ?_
        refine lv_iload_n hx hb dX0_withoutPrime_42 rfl (lv_at hl 0 rfl) ?_
        refine lv_i2l (v := x2.toInt64) hx hb dX0_withoutPrime_43 rfl ?_
        obtain ⟨z_8, hf⟩ := ite_n hf
        refine lv_ldiv hx hb dX0_withoutPrime_44 z_8 ?_
        refine lv_lstore (lv' := [(5, .long (x5 / x2.toInt64)), (2, .int x2), (3, .long x3), (7, .int x7)]) hx hb dX0_withoutPrime_45 hl (by decide) rfl (fun ls hl => ?_)
        refine lv_iinc (v := (x7 + (1 : Int32))) (lv' := [(7, .int (x7 + (1 : Int32))), (5, .long (x5 / x2.toInt64)), (2, .int x2), (3, .long x3)]) hx hb dX0_withoutPrime_47 hl (k := 3) rfl rfl (by decide) rfl (fun ls hl => ?_)
        refine lv_goto (tgt := 6) hx hb dX0_withoutPrime_50 (by decide) ?_
        exact hself _ _ _ (lv_sub hl [2, 3, 1, 0] rfl) hf
      · have hf := ite_f hf c_7
        refine lv_goto (tgt := 53) hx hb dX0_withoutPrime_37 (by decide) ?_
        exact hk _ _ (lv_sub hl [2] rfl) hf
theorem wX0_withoutPrime_L6 {p : Program} {l : Launch} {e : Env} {s : State} {m : MethodId} {args : Array Value} {below : List Frame} {meth : Method} {c : Code} {D : va_G} {cy : Nat → ClassId} {r0 : Int64} (E0 : En p m c cX0_withoutPrime 8 s args wsX0_withoutPrime RX0 meth (some .long) D cy) (N : Nat) (x2 : Int32) (x3 : Int64) (hP : va_P D vwCl [] s.heap) (k : Int64 → Option (Int64)) (hk : ∀ (x5 : Int64) (ls : Array Slot), lv_has ls 8 [(5, .long x5)] → k x5 = some r0 → GX0_withoutPrime p l e s m args below meth c r0 (F0 m 53 ls [])) : ∀ (n : Nat), ∀ (x5 : Int64) (x7 : Int32) (ls : Array Slot), lv_has ls 8 [(2, .int x2), (3, .long x3), (5, .long x5), (7, .int x7)] → fX0_withoutPrime_L6 N x2 x3 k n x5 x7 = some r0 → GX0_withoutPrime p l e s m args below meth c r0 (F0 m 6 ls []) := by
  intro n
  induction n with
  | zero => intro x5 x7 ls hl hf; cases hf
  | succ n ih => exact wX0_withoutPrime_B6 E0 N x2 x3 hP _ ih k hk
set_option maxHeartbeats 4000000 in
set_option maxRecDepth 100000 in
theorem ctX0_withoutPrime (l : Launch) (D : va_G) (cy : Nat → ClassId) (N : Nat)  (x0 : Int64) (x2 : Int32) (x3 : Int64) (r0 : Int64) (hf : fX0_withoutPrime N x0 x2 x3 = some r0) : Met l yX0_withoutPrime wsX0_withoutPrime rX0_withoutPrime (va_Pc [.long x0, .int x2, .long x3] (Rd D cy [])) (vp_Sl (fun r => r = r0)) 0 0 (fun _ => False) := by
  refine Met.ofW (cc := cX0_withoutPrime) (maxL := 8) (ret := (some .long)) (by decide) rfl ?_
  intro p e s m args below meth c s₁ B hml hv
  obtain ⟨rfl, hP, hB⟩ := hv
  have hx := B.exec
  have hb := B.bytes
  have hr := B.returns
  have hts := atoms_spec (ws := wsX0_withoutPrime) B.pre
  have hown : s.vm.findClass RX0 = some m.cls := findClass_of_methodNamed B.named
  have hlocks := B.notSynchronized
  have hK := hB.1
  have hN := hB.2
  have hl := lv_entry ([.long x0, .int x2, .long x3]) (n := 8) (Nat.le_of_ble_eq_true rfl)
  rw [lg_entry_eq]
  generalize (lg_sl ([.long x0, .int x2, .long x3]) ++ List.replicate (8 - (lg_sl ([.long x0, .int x2, .long x3])).length) Slot.unset).toArray = ls at hl ⊢
  have hl : lv_has ls 8 [(0, .long x0), (2, .int x2), (3, .long x3)] := hl
  have E0 : En p m c cX0_withoutPrime 8 s ([.long x0, .int x2, .long x3] : List Value).toArray wsX0_withoutPrime RX0 meth (some .long) D cy := ⟨⟨hx, hb, hml, hown, hts⟩, hr, hlocks, hB⟩
  unfold fX0_withoutPrime at hf
  refine lv_lload_n hx hb dX0_withoutPrime_0 rfl (lv_at hl 0 rfl) ?_
  refine lv_lstore (lv' := [(5, .long x0), (0, .long x0), (2, .int x2), (3, .long x3)]) hx hb dX0_withoutPrime_1 hl (by decide) rfl (fun ls hl => ?_)
  refine lv_iconst (v := (0 : Int32)) hx hb dX0_withoutPrime_3 (by decide) ?_
  refine lv_istore (lv' := [(7, .int (0 : Int32)), (5, .long x0), (0, .long x0), (2, .int x2), (3, .long x3)]) hx hb dX0_withoutPrime_4 hl (by decide) rfl (fun ls hl => ?_)
  refine wX0_withoutPrime_L6 E0 N x2 x3 hP _ (fun x5_9 ls hl hf => ?_) N _ _ _ (lv_sub hl [3, 4, 1, 0] rfl) hf
  refine lv_lload hx hb dX0_withoutPrime_53 (lv_at hl 0 rfl) ?_
  exact W.lret (v := x5_9) hx hb hr (fun t ht hW => ⟨_, rfl, Option.some.inj hf, ht⟩) (fun _ h => absurd h List.not_mem_nil) dX0_withoutPrime_55
/-! SumForms$Factors.periodOf(J)J -/
abbrev rX0_periodOf : Room := { frames := 4, cells := 0, slots := 0, locals := 109 }
theorem mX0_periodOf_0 : Cond.initialized RX2 ∈ wsX0_periodOf := by decide +kernel
theorem mX0_periodOf_1 : Cond.static yX2_degree ∈ wsX0_periodOf := by decide +kernel
theorem mX0_periodOf_2 : Cond.fieldLink RX0 87 "SumForms$Factors" "PRIMES" "[I" ∈ wsX0_periodOf := by decide +kernel
abbrev GX0_periodOf (p : Program) (l : Launch) (e : Env) (s : State) (m : MethodId) (args : Array Value) (below : List Frame) (meth : Method) (c : Code) (r0 : Int64) (fr : JFrame) : Prop := W p l e (headSpec wsX0_periodOf rX0_periodOf).room s m args below meth c s.heap [] 0 0 (MQ below (vp_Sl (fun r => r = r0)) args s 0 0 (fun _ => False)) fr
def fX0_periodOf_B22 (N : Nat) (x0 : Int64) (x5 : Int32) (self : Int64 → Int32 → Option (Int64)) (k : Int64 → Option (Int64)) (x2 : Int64) (x6 : Int32) : Option (Int64) := (if x5 ≤ x6 then (k x2) else (if OOB x6 36 then none else ((fX0_withoutPrime N x2 (kPR x6.toNatClampNeg) x0).bind (fun r_5 => (self r_5 (x6 + (1 : Int32)))))))
def fX0_periodOf_L22 (N : Nat) (x0 : Int64) (x5 : Int32) (k : Int64 → Option (Int64)) : Nat → Int64 → Int32 → Option (Int64)
  | 0 => fun _ _ => none
  | n + 1 => fun x2 x6 => fX0_periodOf_B22 N x0 x5 (fX0_periodOf_L22 N x0 x5 k n) k x2 x6
def fX0_periodOf (N : Nat)  (x0 : Int64) : Option (Int64) := ((fX2_degree N x0).bind (fun r_1 => (fX0_periodOf_L22 N x0 (36 : Int32) (fun x2_7 => (some x2_7)) N ((lShl (1 : Int64) r_1) - (1 : Int64)) (0 : Int32))))
set_option maxHeartbeats 4000000 in
set_option maxRecDepth 100000 in
theorem wX0_periodOf_B22 {p : Program} {l : Launch} {e : Env} {s : State} {m : MethodId} {args : Array Value} {below : List Frame} {meth : Method} {c : Code} {D : va_G} {cy : Nat → ClassId} {tPR : Nat} {r0 : Int64} (E0 : En p m c cX0_periodOf 8 s args wsX0_periodOf RX0 meth (some .long) D cy) (N : Nat) (x0 : Int64) (x5 : Int32) (hP : va_P D vwCl [] s.heap) (hZ : ST0 tPR (fun _ => False) s s.heap) (self : Int64 → Int32 → Option (Int64)) (hself : ∀ (x2 : Int64) (x6 : Int32) (ls : Array Slot), lv_has ls 8 [(0, .long x0), (2, .long x2), (4, .ref tPR), (5, .int x5), (6, .int x6)] → self x2 x6 = some r0 → GX0_periodOf p l e s m args below meth c r0 (F0 m 22 ls [])) (k : Int64 → Option (Int64)) (hk : ∀ (x2 : Int64) (ls : Array Slot), lv_has ls 8 [(2, .long x2)] → k x2 = some r0 → GX0_periodOf p l e s m args below meth c r0 (F0 m 50 ls [])) : ∀ (x2 : Int64) (x6 : Int32) (ls : Array Slot), lv_has ls 8 [(0, .long x0), (2, .long x2), (4, .ref tPR), (5, .int x5), (6, .int x6)] → fX0_periodOf_B22 N x0 x5 self k x2 x6 = some r0 → GX0_periodOf p l e s m args below meth c r0 (F0 m 22 ls []) := by
  obtain ⟨⟨hx, hb, hml, hown, hts⟩, hr, hlocks, hB⟩ := id E0
  have hK := hB.1
  have hN := hB.2
  intro x2 x6 ls hl hf
  unfold fX0_periodOf_B22 at hf
  refine lv_iload hx hb dX0_periodOf_22 (lv_at hl 4 rfl) ?_
  refine lv_iload hx hb dX0_periodOf_24 (lv_at hl 3 rfl) ?_
  refine lv_icmp_ge (tgt := 50) hx hb dX0_periodOf_26 (by decide) (fun c_3 => ?_) (fun c_3 => ?_)
  · have hf := ite_t hf c_3
    exact hk _ _ (lv_sub hl [1] rfl) hf
  · have hf := ite_f hf c_3
    refine lv_aload hx hb dX0_periodOf_29 (lv_at hl 2 rfl) ?_
    refine lv_iload hx hb dX0_periodOf_31 (lv_at hl 4 rfl) ?_
    obtain ⟨b_4, hf⟩ := ite_n hf
    refine va_ti hx hb hZ.2 va_S.rf b_4 (v := .int (kPR x6.toNatClampNeg)) rfl dX0_periodOf_33 ?_
    refine lv_istore (lv' := [(7, .int (kPR x6.toNatClampNeg)), (0, .long x0), (2, .long x2), (4, .ref tPR), (5, .int x5), (6, .int x6)]) hx hb dX0_periodOf_34 hl (by decide) rfl (fun ls hl => ?_)
    refine lv_lload_n hx hb dX0_periodOf_36 rfl (lv_at hl 2 rfl) ?_
    refine lv_iload hx hb dX0_periodOf_37 (lv_at hl 0 rfl) ?_
    refine lv_lload_n hx hb dX0_periodOf_39 rfl (lv_at hl 1 rfl) ?_
    obtain ⟨r_5, h_6, hf⟩ := bind_some hf
    have hP_r_5 : va_P D vwCl [] s.heap := hP.sub [] rfl
    refine cz_l (va_runS (As := [.long x2, .int (kPR x6.toNatClampNeg), .long x0]) (rest := []) ⟨hx, hb, hml, hown, hts⟩ (ctX0_withoutPrime l D cy N   x2 (kPR x6.toNatClampNeg) x0 r_5 h_6) (va_cwS 3 hts gX0_periodOf_X0_withoutPrime rfl rfl rfl (by decide +kernel) ⟨Nat.le_of_ble_eq_true rfl, Nat.le_of_ble_eq_true rfl⟩) (preS_rd [.long x2, .int (kPR x6.toNatClampNeg), .long x0] hP_r_5 hB) rfl rfl hl.1 rfl (lv_room (Nat.le_of_ble_eq_true rfl)) dX0_periodOf_40 ⟨Nat.zero_le _, Nat.zero_le _⟩) ?_
    refine lv_lstore_n (lv' := [(2, .long r_5), (7, .int (kPR x6.toNatClampNeg)), (0, .long x0), (4, .ref tPR), (5, .int x5), (6, .int x6)]) hx hb dX0_periodOf_43 rfl hl (by decide) rfl (fun ls hl => ?_)
    refine lv_iinc (v := (x6 + (1 : Int32))) (lv' := [(6, .int (x6 + (1 : Int32))), (2, .long r_5), (7, .int (kPR x6.toNatClampNeg)), (0, .long x0), (4, .ref tPR), (5, .int x5)]) hx hb dX0_periodOf_44 hl (k := 5) rfl rfl (by decide) rfl (fun ls hl => ?_)
    refine lv_goto (tgt := 22) hx hb dX0_periodOf_47 (by decide) ?_
    exact hself _ _ _ (lv_sub hl [3, 1, 4, 5, 0] rfl) hf
theorem wX0_periodOf_L22 {p : Program} {l : Launch} {e : Env} {s : State} {m : MethodId} {args : Array Value} {below : List Frame} {meth : Method} {c : Code} {D : va_G} {cy : Nat → ClassId} {tPR : Nat} {r0 : Int64} (E0 : En p m c cX0_periodOf 8 s args wsX0_periodOf RX0 meth (some .long) D cy) (N : Nat) (x0 : Int64) (x5 : Int32) (hP : va_P D vwCl [] s.heap) (hZ : ST0 tPR (fun _ => False) s s.heap) (k : Int64 → Option (Int64)) (hk : ∀ (x2 : Int64) (ls : Array Slot), lv_has ls 8 [(2, .long x2)] → k x2 = some r0 → GX0_periodOf p l e s m args below meth c r0 (F0 m 50 ls [])) : ∀ (n : Nat), ∀ (x2 : Int64) (x6 : Int32) (ls : Array Slot), lv_has ls 8 [(0, .long x0), (2, .long x2), (4, .ref tPR), (5, .int x5), (6, .int x6)] → fX0_periodOf_L22 N x0 x5 k n x2 x6 = some r0 → GX0_periodOf p l e s m args below meth c r0 (F0 m 22 ls []) := by
  intro n
  induction n with
  | zero => intro x2 x6 ls hl hf; cases hf
  | succ n ih => exact wX0_periodOf_B22 E0 N x0 x5 hP hZ _ ih k hk
set_option maxHeartbeats 4000000 in
set_option maxRecDepth 100000 in
theorem ctX0_periodOf (l : Launch) (D : va_G) (cy : Nat → ClassId) (N : Nat) (tPR : Nat)  (x0 : Int64) (r0 : Int64) (hf : fX0_periodOf N x0 = some r0) : Met l yX0_periodOf wsX0_periodOf rX0_periodOf (va_Pc [.long x0] (RdT D cy [] (ST0 tPR (fun _ => False)))) (vp_Sl (fun r => r = r0)) 0 0 (fun _ => False) := by
  refine Met.ofW (cc := cX0_periodOf) (maxL := 8) (ret := (some .long)) (by decide) rfl ?_
  intro p e s m args below meth c s₁ B hml hv
  obtain ⟨rfl, hP, hB, hZ⟩ := hv
  have hx := B.exec
  have hb := B.bytes
  have hr := B.returns
  have hts := atoms_spec (ws := wsX0_periodOf) B.pre
  have hown : s.vm.findClass RX0 = some m.cls := findClass_of_methodNamed B.named
  have hlocks := B.notSynchronized
  have hK := hB.1
  have hN := hB.2
  have hl := lv_entry ([.long x0]) (n := 8) (Nat.le_of_ble_eq_true rfl)
  rw [lg_entry_eq]
  generalize (lg_sl ([.long x0]) ++ List.replicate (8 - (lg_sl ([.long x0])).length) Slot.unset).toArray = ls at hl ⊢
  have hl : lv_has ls 8 [(0, .long x0)] := hl
  have E0 : En p m c cX0_periodOf 8 s ([.long x0] : List Value).toArray wsX0_periodOf RX0 meth (some .long) D cy := ⟨⟨hx, hb, hml, hown, hts⟩, hr, hlocks, hB⟩
  unfold fX0_periodOf at hf
  refine lv_lconst (v := (1 : Int64)) hx hb dX0_periodOf_0 (by decide) ?_
  refine lv_lload_n hx hb dX0_periodOf_1 rfl (lv_at hl 0 rfl) ?_
  obtain ⟨r_1, h_2, hf⟩ := bind_some hf
  have hP_r_1 : va_P D vwCl [] s.heap := hP.sub [] rfl
  refine cz_i (va_runSN (As := [.long x0]) (rest := [.long (1 : Int64)]) ⟨hx, hb, hml, hown, hts⟩ (ctX2_degree l D cy N   x0 r_1 h_2) ⟨va_cnB 1 hts gX0_periodOf_X2_degree_n34 rfl rfl rfl (nwX0_34 hN) (hts _ mX0_periodOf_0) (by decide +kernel) ⟨Nat.le_of_ble_eq_true rfl, Nat.le_of_ble_eq_true rfl⟩, hts _ mX0_periodOf_1, trivial⟩ (preS_rd [.long x0] hP_r_1 hB) rfl rfl hl.1 rfl (lv_room (Nat.le_of_ble_eq_true rfl)) dX0_periodOf_2 ⟨Nat.zero_le _, Nat.zero_le _⟩) ?_
  refine zz_lshl hx hb dX0_periodOf_5 ?_
  refine lv_lconst (v := (1 : Int64)) hx hb dX0_periodOf_6 (by decide) ?_
  refine lv_lsub hx hb dX0_periodOf_7 ?_
  refine lv_lstore_n (lv' := [(2, .long ((lShl (1 : Int64) r_1) - (1 : Int64))), (0, .long x0)]) hx hb dX0_periodOf_8 rfl hl (by decide) rfl (fun ls hl => ?_)
  refine va_gets hx hb hZ.1 va_S.rf hown (hts _ mX0_periodOf_2) (fun _ h9 => h9) dX0_periodOf_9 ?_
  refine lv_astore (lv' := [(4, .ref tPR), (2, .long ((lShl (1 : Int64) r_1) - (1 : Int64))), (0, .long x0)]) hx hb dX0_periodOf_12 hl (by decide) rfl (fun ls hl => ?_)
  refine lv_aload hx hb dX0_periodOf_14 (lv_at hl 0 rfl) ?_
  refine va_tlen hx hb hZ.2 va_S.rf (v := (36 : Int32)) (by decide) dX0_periodOf_16 ?_
  refine lv_istore (lv' := [(5, .int (36 : Int32)), (4, .ref tPR), (2, .long ((lShl (1 : Int64) r_1) - (1 : Int64))), (0, .long x0)]) hx hb dX0_periodOf_17 hl (by decide) rfl (fun ls hl => ?_)
  refine lv_iconst (v := (0 : Int32)) hx hb dX0_periodOf_19 (by decide) ?_
  refine lv_istore (lv' := [(6, .int (0 : Int32)), (5, .int (36 : Int32)), (4, .ref tPR), (2, .long ((lShl (1 : Int64) r_1) - (1 : Int64))), (0, .long x0)]) hx hb dX0_periodOf_20 hl (by decide) rfl (fun ls hl => ?_)
  refine wX0_periodOf_L22 E0 N x0 (36 : Int32) hP hZ _ (fun x2_7 ls hl hf => ?_) N _ _ _ (lv_sub hl [4, 3, 2, 1, 0] rfl) hf
  refine lv_lload_n hx hb dX0_periodOf_50 rfl (lv_at hl 0 rfl) ?_
  exact W.lret (v := x2_7) hx hb hr (fun t ht hW => ⟨_, rfl, Option.some.inj hf, ht⟩) (fun _ h => absurd h List.not_mem_nil) dX0_periodOf_51
/-! SumForms$Factors.leastCommonMultiple(JJ)J -/
abbrev rX0_leastCommonMultiple : Room := { frames := 0, cells := 0, slots := 0, locals := 0 }
abbrev GX0_leastCommonMultiple (p : Program) (l : Launch) (e : Env) (s : State) (m : MethodId) (args : Array Value) (below : List Frame) (meth : Method) (c : Code) (r0 : Int64) (fr : JFrame) : Prop := W p l e (headSpec wsX0_leastCommonMultiple rX0_leastCommonMultiple).room s m args below meth c s.heap [] 0 0 (MQ below (vp_Sl (fun r => r = r0)) args s 0 0 (fun _ => False)) fr
def fX0_leastCommonMultiple_B9 (N : Nat) (x0 : Int64) (x2 : Int64) (self : Int64 → Int64 → Int32 → Option (Int64)) (k : Int64 → Option (Int64)) (x4 : Int64) (x6 : Int64) (x8 : Int32) : Option (Int64) := (if (100 : Int32) ≤ x8 then (k x4) else (if x6 = (0 : Int64) then (k x4) else (if x6 = 0 then none else (self x6 (lRem x4 x6) (x8 + (1 : Int32))))))
def fX0_leastCommonMultiple_L9 (N : Nat) (x0 : Int64) (x2 : Int64) (k : Int64 → Option (Int64)) : Nat → Int64 → Int64 → Int32 → Option (Int64)
  | 0 => fun _ _ _ => none
  | n + 1 => fun x4 x6 x8 => fX0_leastCommonMultiple_B9 N x0 x2 (fX0_leastCommonMultiple_L9 N x0 x2 k n) k x4 x6 x8
def fX0_leastCommonMultiple (N : Nat)  (x0 : Int64) (x2 : Int64) : Option (Int64) := (fX0_leastCommonMultiple_L9 N x0 x2 (fun x4_4 => (if x4_4 = (0 : Int64) then (some (0 : Int64)) else (if x4_4 = 0 then none else (some ((x0 / x4_4) * x2))))) N x0 x2 (0 : Int32))
set_option maxHeartbeats 4000000 in
set_option maxRecDepth 100000 in
theorem wX0_leastCommonMultiple_B9 {p : Program} {l : Launch} {e : Env} {s : State} {m : MethodId} {args : Array Value} {below : List Frame} {meth : Method} {c : Code} {D : va_G} {cy : Nat → ClassId} {r0 : Int64} (E0 : En p m c cX0_leastCommonMultiple 11 s args wsX0_leastCommonMultiple RX0 meth (some .long) D cy) (N : Nat) (x0 : Int64) (x2 : Int64) (hP : va_P D vwCl [] s.heap) (self : Int64 → Int64 → Int32 → Option (Int64)) (hself : ∀ (x4 : Int64) (x6 : Int64) (x8 : Int32) (ls : Array Slot), lv_has ls 11 [(0, .long x0), (2, .long x2), (4, .long x4), (6, .long x6), (8, .int x8)] → self x4 x6 x8 = some r0 → GX0_leastCommonMultiple p l e s m args below meth c r0 (F0 m 9 ls [])) (k : Int64 → Option (Int64)) (hk : ∀ (x4 : Int64) (ls : Array Slot), lv_has ls 11 [(0, .long x0), (2, .long x2), (4, .long x4)] → k x4 = some r0 → GX0_leastCommonMultiple p l e s m args below meth c r0 (F0 m 44 ls [])) : ∀ (x4 : Int64) (x6 : Int64) (x8 : Int32) (ls : Array Slot), lv_has ls 11 [(0, .long x0), (2, .long x2), (4, .long x4), (6, .long x6), (8, .int x8)] → fX0_leastCommonMultiple_B9 N x0 x2 self k x4 x6 x8 = some r0 → GX0_leastCommonMultiple p l e s m args below meth c r0 (F0 m 9 ls []) := by
  obtain ⟨⟨hx, hb, hml, hown, hts⟩, hr, hlocks, hB⟩ := id E0
  have hK := hB.1
  have hN := hB.2
  intro x4 x6 x8 ls hl hf
  unfold fX0_leastCommonMultiple_B9 at hf
  refine lv_iload hx hb dX0_leastCommonMultiple_9 (lv_at hl 4 rfl) ?_
  refine lv_bipush (v := (100 : Int32)) hx hb dX0_leastCommonMultiple_11 (by decide) ?_
  refine lv_icmp_ge (tgt := 44) hx hb dX0_leastCommonMultiple_13 (by decide) (fun c_1 => ?_) (fun c_1 => ?_)
  · have hf := ite_t hf c_1
    exact hk _ _ (lv_sub hl [0, 1, 2] rfl) hf
  · have hf := ite_f hf c_1
    refine lv_lload hx hb dX0_leastCommonMultiple_16 (lv_at hl 3 rfl) ?_
    refine lv_lconst (v := (0 : Int64)) hx hb dX0_leastCommonMultiple_18 (by decide) ?_
    refine zz_lc_eq (tgt := 44) hx hb dX0_leastCommonMultiple_19 dX0_leastCommonMultiple_20 (by decide) (fun c_2 => ?_) (fun c_2 => ?_)
    · have hf := ite_t hf c_2
      exact hk _ _ (lv_sub hl [0, 1, 2] rfl) hf
    · have hf := ite_f hf c_2
      refine lv_lload hx hb dX0_leastCommonMultiple_23 (lv_at hl 2 rfl) ?_
      refine lv_lload hx hb dX0_leastCommonMultiple_25 (lv_at hl 3 rfl) ?_
      obtain ⟨z_3, hf⟩ := ite_n hf
      refine zz_lrem hx hb dX0_leastCommonMultiple_27 z_3 ?_
      refine lv_lstore (lv' := [(9, .long (lRem x4 x6)), (0, .long x0), (2, .long x2), (4, .long x4), (6, .long x6), (8, .int x8)]) hx hb dX0_leastCommonMultiple_28 hl (by decide) rfl (fun ls hl => ?_)
      refine lv_lload hx hb dX0_leastCommonMultiple_30 (lv_at hl 4 rfl) ?_
      refine lv_lstore (lv' := [(4, .long x6), (9, .long (lRem x4 x6)), (0, .long x0), (2, .long x2), (6, .long x6), (8, .int x8)]) hx hb dX0_leastCommonMultiple_32 hl (by decide) rfl (fun ls hl => ?_)
      refine lv_lload hx hb dX0_leastCommonMultiple_34 (lv_at hl 1 rfl) ?_
      refine lv_lstore (lv' := [(6, .long (lRem x4 x6)), (4, .long x6), (9, .long (lRem x4 x6)), (0, .long x0), (2, .long x2), (8, .int x8)]) hx hb dX0_leastCommonMultiple_36 hl (by decide) rfl (fun ls hl => ?_)
      refine lv_iinc (v := (x8 + (1 : Int32))) (lv' := [(8, .int (x8 + (1 : Int32))), (6, .long (lRem x4 x6)), (4, .long x6), (9, .long (lRem x4 x6)), (0, .long x0), (2, .long x2)]) hx hb dX0_leastCommonMultiple_38 hl (k := 5) rfl rfl (by decide) rfl (fun ls hl => ?_)
      refine lv_goto (tgt := 9) hx hb dX0_leastCommonMultiple_41 (by decide) ?_
      exact hself _ _ _ _ (lv_sub hl [4, 5, 2, 1, 0] rfl) hf
theorem wX0_leastCommonMultiple_L9 {p : Program} {l : Launch} {e : Env} {s : State} {m : MethodId} {args : Array Value} {below : List Frame} {meth : Method} {c : Code} {D : va_G} {cy : Nat → ClassId} {r0 : Int64} (E0 : En p m c cX0_leastCommonMultiple 11 s args wsX0_leastCommonMultiple RX0 meth (some .long) D cy) (N : Nat) (x0 : Int64) (x2 : Int64) (hP : va_P D vwCl [] s.heap) (k : Int64 → Option (Int64)) (hk : ∀ (x4 : Int64) (ls : Array Slot), lv_has ls 11 [(0, .long x0), (2, .long x2), (4, .long x4)] → k x4 = some r0 → GX0_leastCommonMultiple p l e s m args below meth c r0 (F0 m 44 ls [])) : ∀ (n : Nat), ∀ (x4 : Int64) (x6 : Int64) (x8 : Int32) (ls : Array Slot), lv_has ls 11 [(0, .long x0), (2, .long x2), (4, .long x4), (6, .long x6), (8, .int x8)] → fX0_leastCommonMultiple_L9 N x0 x2 k n x4 x6 x8 = some r0 → GX0_leastCommonMultiple p l e s m args below meth c r0 (F0 m 9 ls []) := by
  intro n
  induction n with
  | zero => intro x4 x6 x8 ls hl hf; cases hf
  | succ n ih => exact wX0_leastCommonMultiple_B9 E0 N x0 x2 hP _ ih k hk
set_option maxHeartbeats 4000000 in
set_option maxRecDepth 100000 in
theorem ctX0_leastCommonMultiple (l : Launch) (D : va_G) (cy : Nat → ClassId) (N : Nat)  (x0 : Int64) (x2 : Int64) (r0 : Int64) (hf : fX0_leastCommonMultiple N x0 x2 = some r0) : Met l yX0_leastCommonMultiple wsX0_leastCommonMultiple rX0_leastCommonMultiple (va_Pc [.long x0, .long x2] (Rd D cy [])) (vp_Sl (fun r => r = r0)) 0 0 (fun _ => False) := by
  refine Met.ofW (cc := cX0_leastCommonMultiple) (maxL := 11) (ret := (some .long)) (by decide) rfl ?_
  intro p e s m args below meth c s₁ B hml hv
  obtain ⟨rfl, hP, hB⟩ := hv
  have hx := B.exec
  have hb := B.bytes
  have hr := B.returns
  have hts := atoms_spec (ws := wsX0_leastCommonMultiple) B.pre
  have hown : s.vm.findClass RX0 = some m.cls := findClass_of_methodNamed B.named
  have hlocks := B.notSynchronized
  have hK := hB.1
  have hN := hB.2
  have hl := lv_entry ([.long x0, .long x2]) (n := 11) (Nat.le_of_ble_eq_true rfl)
  rw [lg_entry_eq]
  generalize (lg_sl ([.long x0, .long x2]) ++ List.replicate (11 - (lg_sl ([.long x0, .long x2])).length) Slot.unset).toArray = ls at hl ⊢
  have hl : lv_has ls 11 [(0, .long x0), (2, .long x2)] := hl
  have E0 : En p m c cX0_leastCommonMultiple 11 s ([.long x0, .long x2] : List Value).toArray wsX0_leastCommonMultiple RX0 meth (some .long) D cy := ⟨⟨hx, hb, hml, hown, hts⟩, hr, hlocks, hB⟩
  unfold fX0_leastCommonMultiple at hf
  refine lv_lload_n hx hb dX0_leastCommonMultiple_0 rfl (lv_at hl 0 rfl) ?_
  refine lv_lstore (lv' := [(4, .long x0), (0, .long x0), (2, .long x2)]) hx hb dX0_leastCommonMultiple_1 hl (by decide) rfl (fun ls hl => ?_)
  refine lv_lload_n hx hb dX0_leastCommonMultiple_3 rfl (lv_at hl 2 rfl) ?_
  refine lv_lstore (lv' := [(6, .long x2), (4, .long x0), (0, .long x0), (2, .long x2)]) hx hb dX0_leastCommonMultiple_4 hl (by decide) rfl (fun ls hl => ?_)
  refine lv_iconst (v := (0 : Int32)) hx hb dX0_leastCommonMultiple_6 (by decide) ?_
  refine lv_istore (lv' := [(8, .int (0 : Int32)), (6, .long x2), (4, .long x0), (0, .long x0), (2, .long x2)]) hx hb dX0_leastCommonMultiple_7 hl (by decide) rfl (fun ls hl => ?_)
  refine wX0_leastCommonMultiple_L9 E0 N x0 x2 hP _ (fun x4_4 ls hl hf => ?_) N _ _ _ _ (lv_sub hl [3, 4, 2, 1, 0] rfl) hf
  refine lv_lload hx hb dX0_leastCommonMultiple_44 (lv_at hl 2 rfl) ?_
  refine lv_lconst (v := (0 : Int64)) hx hb dX0_leastCommonMultiple_46 (by decide) ?_
  refine zz_lc_ne (tgt := 55) hx hb dX0_leastCommonMultiple_47 dX0_leastCommonMultiple_48 (by decide) (fun c_5 => ?_) (fun c_5 => ?_)
  · have hf := ite_f hf c_5
    refine lv_lload_n hx hb dX0_leastCommonMultiple_55 rfl (lv_at hl 0 rfl) ?_
    refine lv_lload hx hb dX0_leastCommonMultiple_56 (lv_at hl 2 rfl) ?_
    obtain ⟨z_6, hf⟩ := ite_n hf
    refine lv_ldiv hx hb dX0_leastCommonMultiple_58 z_6 ?_
    refine lv_lload_n hx hb dX0_leastCommonMultiple_59 rfl (lv_at hl 1 rfl) ?_
    refine lv_lmul hx hb dX0_leastCommonMultiple_60 ?_
    exact W.lret (v := ((x0 / x4_4) * x2)) hx hb hr (fun t ht hW => ⟨_, rfl, Option.some.inj hf, ht⟩) (fun _ h => absurd h List.not_mem_nil) dX0_leastCommonMultiple_61
  · have hf := ite_t hf c_5
    refine lv_lconst (v := (0 : Int64)) hx hb dX0_leastCommonMultiple_51 (by decide) ?_
    refine lv_goto (tgt := 61) hx hb dX0_leastCommonMultiple_52 (by decide) ?_
    exact W.lret (v := (0 : Int64)) hx hb hr (fun t ht hW => ⟨_, rfl, Option.some.inj hf, ht⟩) (fun _ h => absurd h List.not_mem_nil) dX0_leastCommonMultiple_61
/-! SumForms$Factors.foundPeriod()J -/
abbrev rX0_foundPeriod : Room := { frames := 5, cells := 0, slots := 0, locals := 136 }
theorem mX0_foundPeriod_0 : Cond.fieldLink RX0 23 "SumForms$Factors" "period" "J" ∈ wsX0_foundPeriod := by decide +kernel
theorem mX0_foundPeriod_1 : Cond.fieldLink RX0 19 "SumForms$Factors" "size" "I" ∈ wsX0_foundPeriod := by decide +kernel
theorem mX0_foundPeriod_2 : Cond.fieldLink RX0 11 "SumForms$Factors" "polynomials" "[J" ∈ wsX0_foundPeriod := by decide +kernel
theorem mX0_foundPeriod_3 : Cond.fieldLink RX0 15 "SumForms$Factors" "times" "[I" ∈ wsX0_foundPeriod := by decide +kernel
theorem mX0_foundPeriod_4 : Cond.constantLong RX0 32 (2) ∈ wsX0_foundPeriod := by decide +kernel
theorem inX0_foundPeriod_X0 : ∀ w ∈ u_ws RX0 TX0 5, w ∈ wsX0_foundPeriod := by decide +kernel
abbrev GX0_foundPeriod (p : Program) (l : Launch) (e : Env) (s : State) (m : MethodId) (args : Array Value) (below : List Frame) (meth : Method) (c : Code) (D : va_G) (cy : Nat → ClassId) (A : Nat → Prop) (hfa : Nat) (hfp : Nat) (hft : Nat) (fN : Int32) (fG : Int64) (fP : Nat → Int64) (fT : Nat → Int32) (r0 : Int64 × Int64) (H : Heap) (locs : List Loc) (fr : JFrame) : Prop := W p l e (headSpec wsX0_foundPeriod rX0_foundPeriod).room s m args below meth c H locs 0 0 (MQ below (Qwl D A [(hfa, .inr (0, [.ref hfp, .ref hft, .int fN, .long r0.2, .long fG])), (hfp, .inl (cy 1, 9, .inr (.inl fP))), (hft, .inl (cy 0, 9, .inl fT))] r0.1) args s 0 0 A) fr
def fX0_foundPeriod_B23 (N : Nat) (fN : Int32) (fP : Nat → Int64) (fT : Nat → Int32)  (self : Int64 → Int32 → Int32 → Option (Int64 × Int64)) (k : Int64 → Int32 → Option (Int64 × Int64)) (fO : Int64) (x1 : Int32) (x2 : Int32) : Option (Int64 × Int64) := (if fN ≤ x2 then (k fO x1) else (if OOB x2 9 then none else ((fX0_periodOf N (fP x2.toNatClampNeg)).bind (fun r_6 => ((fX0_leastCommonMultiple N fO r_6).bind (fun r_8 => (if OOB x2 9 then none else (if (fT x2.toNatClampNeg) ≤ x1 then (self r_8 x1 (x2 + (1 : Int32))) else (if OOB x2 9 then none else (self r_8 (fT x2.toNatClampNeg) (x2 + (1 : Int32))))))))))))
def fX0_foundPeriod_L23 (N : Nat) (fN : Int32) (fP : Nat → Int64) (fT : Nat → Int32)  (k : Int64 → Int32 → Option (Int64 × Int64)) : Nat → Int64 → Int32 → Int32 → Option (Int64 × Int64)
  | 0 => fun _ _ _ => none
  | n + 1 => fun fO x1 x2 => fX0_foundPeriod_B23 N fN fP fT (fX0_foundPeriod_L23 N fN fP fT k n) k fO x1 x2
def fX0_foundPeriod_B80 (N : Nat) (fN : Int32) (fP : Nat → Int64) (fT : Nat → Int32) (x1 : Int32) (self : Int64 → Int32 → Option (Int64 × Int64)) (k : Int64 → Option (Int64 × Int64)) (fO : Int64) (x2 : Int32) : Option (Int64 × Int64) := (if (32 : Int32) ≤ x2 then (k fO) else (if x1 ≤ x2 then (k fO) else (self (fO * (2 : Int64)) (x2 * (2 : Int32)))))
def fX0_foundPeriod_L80 (N : Nat) (fN : Int32) (fP : Nat → Int64) (fT : Nat → Int32) (x1 : Int32) (k : Int64 → Option (Int64 × Int64)) : Nat → Int64 → Int32 → Option (Int64 × Int64)
  | 0 => fun _ _ => none
  | n + 1 => fun fO x2 => fX0_foundPeriod_B80 N fN fP fT x1 (fX0_foundPeriod_L80 N fN fP fT x1 k n) k fO x2
def fX0_foundPeriod (N : Nat) (fN : Int32) (fO : Int64) (fP : Nat → Int64) (fT : Nat → Int32)  : Option (Int64 × Int64) := (if fO = (0 : Int64) then (fX0_foundPeriod_L23 N fN fP fT (fun fO_15 x1_16 => (fX0_foundPeriod_L80 N fN fP fT x1_16 (fun fO_23 => (some (fO_23, fO_23))) N fO_15 (1 : Int32))) N (1 : Int64) (1 : Int32) (0 : Int32)) else (some (fO, fO)))
set_option maxHeartbeats 4000000 in
set_option maxRecDepth 100000 in
theorem wX0_foundPeriod_B23 {p : Program} {l : Launch} {e : Env} {s : State} {m : MethodId} {args : Array Value} {below : List Frame} {meth : Method} {c : Code} {D : va_G} {cy : Nat → ClassId} {A : Nat → Prop} {hfa hfp hft tPR : Nat} {fG : Int64} {r0 : Int64 × Int64} (E0 : En p m c cX0_foundPeriod 3 s args wsX0_foundPeriod RX0 meth (some .long) D cy) (N : Nat) (fN : Int32) (fP : Nat → Int64) (fT : Nat → Int32)  (hA : ∀ q, s.heap.size ≤ q → A q) (hZ : ST0 tPR A s s.heap) (self : Int64 → Int32 → Int32 → Option (Int64 × Int64)) (hself : ∀ (fO : Int64) (x1 : Int32) (x2 : Int32) (H : Heap) (locs : List Loc) (ls : Array Slot), va_P D vwCl [(hfa, .inr (0, [.ref hfp, .ref hft, .int fN, .long fO, .long fG])), (hfp, .inl (cy 1, 9, .inr (.inl fP))), (hft, .inl (cy 0, 9, .inl fT))] H → va_D A [(hfa, .inr (0, [.ref hfp, .ref hft, .int fN, .long fO, .long fG])), (hfp, .inl (cy 1, 9, .inr (.inl fP))), (hft, .inl (cy 0, 9, .inl fT))] → va_S A s.heap H locs → lv_has ls 3 [(0, .ref hfa), (1, .int x1), (2, .int x2)] → self fO x1 x2 = some r0 → GX0_foundPeriod p l e s m args below meth c D cy A hfa hfp hft fN fG fP fT r0 H locs (F0 m 23 ls [])) (k : Int64 → Int32 → Option (Int64 × Int64)) (hk : ∀ (fO : Int64) (x1 : Int32) (H : Heap) (locs : List Loc) (ls : Array Slot), va_P D vwCl [(hfa, .inr (0, [.ref hfp, .ref hft, .int fN, .long fO, .long fG])), (hfp, .inl (cy 1, 9, .inr (.inl fP))), (hft, .inl (cy 0, 9, .inl fT))] H → va_D A [(hfa, .inr (0, [.ref hfp, .ref hft, .int fN, .long fO, .long fG])), (hfp, .inl (cy 1, 9, .inr (.inl fP))), (hft, .inl (cy 0, 9, .inl fT))] → va_S A s.heap H locs → lv_has ls 3 [(0, .ref hfa), (1, .int x1)] → k fO x1 = some r0 → GX0_foundPeriod p l e s m args below meth c D cy A hfa hfp hft fN fG fP fT r0 H locs (F0 m 78 ls [])) : ∀ (fO : Int64) (x1 : Int32) (x2 : Int32) (H : Heap) (locs : List Loc) (ls : Array Slot), va_P D vwCl [(hfa, .inr (0, [.ref hfp, .ref hft, .int fN, .long fO, .long fG])), (hfp, .inl (cy 1, 9, .inr (.inl fP))), (hft, .inl (cy 0, 9, .inl fT))] H → va_D A [(hfa, .inr (0, [.ref hfp, .ref hft, .int fN, .long fO, .long fG])), (hfp, .inl (cy 1, 9, .inr (.inl fP))), (hft, .inl (cy 0, 9, .inl fT))] → va_S A s.heap H locs → lv_has ls 3 [(0, .ref hfa), (1, .int x1), (2, .int x2)] → fX0_foundPeriod_B23 N fN fP fT self k fO x1 x2 = some r0 → GX0_foundPeriod p l e s m args below meth c D cy A hfa hfp hft fN fG fP fT r0 H locs (F0 m 23 ls []) := by
  obtain ⟨⟨hx, hb, hml, hown, hts⟩, hr, hlocks, hB⟩ := id E0
  have hK := hB.1
  have hN := hB.2
  intro fO x1 x2 H locs ls hP hD hS hl hf
  unfold fX0_foundPeriod_B23 at hf
  refine lv_iload_n hx hb dX0_foundPeriod_23 rfl (lv_at hl 2 rfl) ?_
  refine lv_aload_n hx hb dX0_foundPeriod_24 rfl (lv_at hl 0 rfl) ?_
  refine va_get (D := D) (ci := 0) (v := .int fN) (C := RX0) (T := TX0) (N := 5) hx hb hts inX0_foundPeriod_X0 hown hK hP 0 rfl rfl 2 (by decide) (hts _ mX0_foundPeriod_1) (fun _ h9 => h9) rfl dX0_foundPeriod_25 ?_
  refine lv_icmp_ge (tgt := 78) hx hb dX0_foundPeriod_28 (by decide) (fun c_4 => ?_) (fun c_4 => ?_)
  · have hf := ite_t hf c_4
    exact hk _ _ _ _ _ hP hD hS (lv_sub hl [0, 1] rfl) hf
  · have hf := ite_f hf c_4
    refine lv_aload_n hx hb dX0_foundPeriod_31 rfl (lv_at hl 0 rfl) ?_
    refine lv_aload_n hx hb dX0_foundPeriod_32 rfl (lv_at hl 0 rfl) ?_
    refine va_get (D := D) (ci := 0) (v := .long fO) (C := RX0) (T := TX0) (N := 5) hx hb hts inX0_foundPeriod_X0 hown hK hP 0 rfl rfl 3 (by decide) (hts _ mX0_foundPeriod_0) (fun _ h9 => h9) rfl dX0_foundPeriod_33 ?_
    refine lv_aload_n hx hb dX0_foundPeriod_36 rfl (lv_at hl 0 rfl) ?_
    refine va_get (D := D) (ci := 0) (v := .ref hfp) (C := RX0) (T := TX0) (N := 5) hx hb hts inX0_foundPeriod_X0 hown hK hP 0 rfl rfl 0 (by decide) (hts _ mX0_foundPeriod_2) (fun _ h9 => h9) rfl dX0_foundPeriod_37 ?_
    refine lv_iload_n hx hb dX0_foundPeriod_40 rfl (lv_at hl 2 rfl) ?_
    obtain ⟨b_5, hf⟩ := ite_n hf
    refine va_lald hx hb hK hP 1 1 rfl rfl b_5 dX0_foundPeriod_41 ?_
    obtain ⟨r_6, h_7, hf⟩ := bind_some hf
    have hP_r_6 : va_P D vwCl [] H := hP.sub [] rfl
    refine cz_l (va_runS (As := [.long (fP x2.toNatClampNeg)]) (rest := [.long fO, .ref hfa]) ⟨hx, hb, hml, hown, hts⟩ (ctX0_periodOf l D cy N tPR  (fP x2.toNatClampNeg) r_6 h_7) (va_cwS 1 hts gX0_foundPeriod_X0_periodOf rfl rfl rfl (by decide +kernel) ⟨Nat.le_of_ble_eq_true rfl, Nat.le_of_ble_eq_true rfl⟩) (preS_rdT (tab0 tPR _) [.long (fP x2.toNatClampNeg)] hP_r_6 hB ((hZ.kept hS.2.1).narrow (fun _ h => h.elim))) rfl rfl hl.1 rfl (lv_room (Nat.le_of_ble_eq_true rfl)) dX0_foundPeriod_42 ⟨Nat.zero_le _, Nat.zero_le _⟩) ?_
    obtain ⟨r_8, h_9, hf⟩ := bind_some hf
    have hP_r_8 : va_P D vwCl [] H := hP.sub [] rfl
    refine cz_l (va_runS (As := [.long fO, .long r_6]) (rest := [.ref hfa]) ⟨hx, hb, hml, hown, hts⟩ (ctX0_leastCommonMultiple l D cy N   fO r_6 r_8 h_9) (va_cwS 2 hts gX0_foundPeriod_X0_leastCommonMultiple rfl rfl rfl (by decide +kernel) ⟨Nat.le_of_ble_eq_true rfl, Nat.le_of_ble_eq_true rfl⟩) (preS_rd [.long fO, .long r_6] hP_r_8 hB) rfl rfl hl.1 rfl (lv_room (Nat.le_of_ble_eq_true rfl)) dX0_foundPeriod_45 ⟨Nat.zero_le _, Nat.zero_le _⟩) ?_
    refine va_put (D := D) (ci := 0) (v := .long r_8) (ty := .long) (C := RX0) (T := TX0) (N := 5) hx hb hts inX0_foundPeriod_X0 tyX0 tyX0_ok nmX0 hown hK hP hD hS 0 rfl rfl 3 (by decide) (hts _ mX0_foundPeriod_0) (fun _ h9 => h9) rfl (by decide +kernel) rfl rfl (Nat.le_of_ble_eq_true rfl) dX0_foundPeriod_48 (fun H10 locs11 hP hD hS => ?_)
    have hP : va_P D vwCl [(hfa, .inr (0, [.ref hfp, .ref hft, .int fN, .long r_8, .long fG])), (hfp, .inl (cy 1, 9, .inr (.inl fP))), (hft, .inl (cy 0, 9, .inl fT))] H10 := hP
    have hD : va_D A [(hfa, .inr (0, [.ref hfp, .ref hft, .int fN, .long r_8, .long fG])), (hfp, .inl (cy 1, 9, .inr (.inl fP))), (hft, .inl (cy 0, 9, .inl fT))] := hD
    refine lv_iload_n hx hb dX0_foundPeriod_51 rfl (lv_at hl 1 rfl) ?_
    refine lv_aload_n hx hb dX0_foundPeriod_52 rfl (lv_at hl 0 rfl) ?_
    refine va_get (D := D) (ci := 0) (v := .ref hft) (C := RX0) (T := TX0) (N := 5) hx hb hts inX0_foundPeriod_X0 hown hK hP 0 rfl rfl 1 (by decide) (hts _ mX0_foundPeriod_3) (fun _ h9 => h9) rfl dX0_foundPeriod_53 ?_
    refine lv_iload_n hx hb dX0_foundPeriod_56 rfl (lv_at hl 2 rfl) ?_
    obtain ⟨b_12, hf⟩ := ite_n hf
    refine va_iald hx hb hK hP 2 0 rfl rfl b_12 dX0_foundPeriod_57 ?_
    refine lv_icmp_ge (tgt := 70) hx hb dX0_foundPeriod_58 (by decide) (fun c_13 => ?_) (fun c_13 => ?_)
    · have hf := ite_t hf c_13
      refine lv_iload_n hx hb dX0_foundPeriod_70 rfl (lv_at hl 1 rfl) ?_
      refine lv_istore_n (lv' := [(1, .int x1), (0, .ref hfa), (2, .int x2)]) hx hb dX0_foundPeriod_71 rfl hl (by decide) rfl (fun ls hl => ?_)
      refine lv_iinc (v := (x2 + (1 : Int32))) (lv' := [(2, .int (x2 + (1 : Int32))), (1, .int x1), (0, .ref hfa)]) hx hb dX0_foundPeriod_72 hl (k := 2) rfl rfl (by decide) rfl (fun ls hl => ?_)
      refine lv_goto (tgt := 23) hx hb dX0_foundPeriod_75 (by decide) ?_
      exact hself _ _ _ _ _ _ hP hD hS (lv_sub hl [2, 1, 0] rfl) hf
    · have hf := ite_f hf c_13
      refine lv_aload_n hx hb dX0_foundPeriod_61 rfl (lv_at hl 0 rfl) ?_
      refine va_get (D := D) (ci := 0) (v := .ref hft) (C := RX0) (T := TX0) (N := 5) hx hb hts inX0_foundPeriod_X0 hown hK hP 0 rfl rfl 1 (by decide) (hts _ mX0_foundPeriod_3) (fun _ h9 => h9) rfl dX0_foundPeriod_62 ?_
      refine lv_iload_n hx hb dX0_foundPeriod_65 rfl (lv_at hl 2 rfl) ?_
      obtain ⟨b_14, hf⟩ := ite_n hf
      refine va_iald hx hb hK hP 2 0 rfl rfl b_14 dX0_foundPeriod_66 ?_
      refine lv_goto (tgt := 71) hx hb dX0_foundPeriod_67 (by decide) ?_
      refine lv_istore_n (lv' := [(1, .int (fT x2.toNatClampNeg)), (0, .ref hfa), (2, .int x2)]) hx hb dX0_foundPeriod_71 rfl hl (by decide) rfl (fun ls hl => ?_)
      refine lv_iinc (v := (x2 + (1 : Int32))) (lv' := [(2, .int (x2 + (1 : Int32))), (1, .int (fT x2.toNatClampNeg)), (0, .ref hfa)]) hx hb dX0_foundPeriod_72 hl (k := 2) rfl rfl (by decide) rfl (fun ls hl => ?_)
      refine lv_goto (tgt := 23) hx hb dX0_foundPeriod_75 (by decide) ?_
      exact hself _ _ _ _ _ _ hP hD hS (lv_sub hl [2, 1, 0] rfl) hf
theorem wX0_foundPeriod_L23 {p : Program} {l : Launch} {e : Env} {s : State} {m : MethodId} {args : Array Value} {below : List Frame} {meth : Method} {c : Code} {D : va_G} {cy : Nat → ClassId} {A : Nat → Prop} {hfa hfp hft tPR : Nat} {fG : Int64} {r0 : Int64 × Int64} (E0 : En p m c cX0_foundPeriod 3 s args wsX0_foundPeriod RX0 meth (some .long) D cy) (N : Nat) (fN : Int32) (fP : Nat → Int64) (fT : Nat → Int32)  (hA : ∀ q, s.heap.size ≤ q → A q) (hZ : ST0 tPR A s s.heap) (k : Int64 → Int32 → Option (Int64 × Int64)) (hk : ∀ (fO : Int64) (x1 : Int32) (H : Heap) (locs : List Loc) (ls : Array Slot), va_P D vwCl [(hfa, .inr (0, [.ref hfp, .ref hft, .int fN, .long fO, .long fG])), (hfp, .inl (cy 1, 9, .inr (.inl fP))), (hft, .inl (cy 0, 9, .inl fT))] H → va_D A [(hfa, .inr (0, [.ref hfp, .ref hft, .int fN, .long fO, .long fG])), (hfp, .inl (cy 1, 9, .inr (.inl fP))), (hft, .inl (cy 0, 9, .inl fT))] → va_S A s.heap H locs → lv_has ls 3 [(0, .ref hfa), (1, .int x1)] → k fO x1 = some r0 → GX0_foundPeriod p l e s m args below meth c D cy A hfa hfp hft fN fG fP fT r0 H locs (F0 m 78 ls [])) : ∀ (n : Nat), ∀ (fO : Int64) (x1 : Int32) (x2 : Int32) (H : Heap) (locs : List Loc) (ls : Array Slot), va_P D vwCl [(hfa, .inr (0, [.ref hfp, .ref hft, .int fN, .long fO, .long fG])), (hfp, .inl (cy 1, 9, .inr (.inl fP))), (hft, .inl (cy 0, 9, .inl fT))] H → va_D A [(hfa, .inr (0, [.ref hfp, .ref hft, .int fN, .long fO, .long fG])), (hfp, .inl (cy 1, 9, .inr (.inl fP))), (hft, .inl (cy 0, 9, .inl fT))] → va_S A s.heap H locs → lv_has ls 3 [(0, .ref hfa), (1, .int x1), (2, .int x2)] → fX0_foundPeriod_L23 N fN fP fT k n fO x1 x2 = some r0 → GX0_foundPeriod p l e s m args below meth c D cy A hfa hfp hft fN fG fP fT r0 H locs (F0 m 23 ls []) := by
  intro n
  induction n with
  | zero => intro fO x1 x2 H locs ls hP hD hS hl hf; cases hf
  | succ n ih => exact wX0_foundPeriod_B23 E0 N fN fP fT hA hZ _ ih k hk
set_option maxHeartbeats 4000000 in
set_option maxRecDepth 100000 in
theorem wX0_foundPeriod_B80 {p : Program} {l : Launch} {e : Env} {s : State} {m : MethodId} {args : Array Value} {below : List Frame} {meth : Method} {c : Code} {D : va_G} {cy : Nat → ClassId} {A : Nat → Prop} {hfa hfp hft tPR : Nat} {fG : Int64} {r0 : Int64 × Int64} (E0 : En p m c cX0_foundPeriod 3 s args wsX0_foundPeriod RX0 meth (some .long) D cy) (N : Nat) (fN : Int32) (fP : Nat → Int64) (fT : Nat → Int32) (x1 : Int32) (hA : ∀ q, s.heap.size ≤ q → A q) (hZ : ST0 tPR A s s.heap) (self : Int64 → Int32 → Option (Int64 × Int64)) (hself : ∀ (fO : Int64) (x2 : Int32) (H : Heap) (locs : List Loc) (ls : Array Slot), va_P D vwCl [(hfa, .inr (0, [.ref hfp, .ref hft, .int fN, .long fO, .long fG])), (hfp, .inl (cy 1, 9, .inr (.inl fP))), (hft, .inl (cy 0, 9, .inl fT))] H → va_D A [(hfa, .inr (0, [.ref hfp, .ref hft, .int fN, .long fO, .long fG])), (hfp, .inl (cy 1, 9, .inr (.inl fP))), (hft, .inl (cy 0, 9, .inl fT))] → va_S A s.heap H locs → lv_has ls 3 [(0, .ref hfa), (1, .int x1), (2, .int x2)] → self fO x2 = some r0 → GX0_foundPeriod p l e s m args below meth c D cy A hfa hfp hft fN fG fP fT r0 H locs (F0 m 80 ls [])) (k : Int64 → Option (Int64 × Int64)) (hk : ∀ (fO : Int64) (H : Heap) (locs : List Loc) (ls : Array Slot), va_P D vwCl [(hfa, .inr (0, [.ref hfp, .ref hft, .int fN, .long fO, .long fG])), (hfp, .inl (cy 1, 9, .inr (.inl fP))), (hft, .inl (cy 0, 9, .inl fT))] H → va_D A [(hfa, .inr (0, [.ref hfp, .ref hft, .int fN, .long fO, .long fG])), (hfp, .inl (cy 1, 9, .inr (.inl fP))), (hft, .inl (cy 0, 9, .inl fT))] → va_S A s.heap H locs → lv_has ls 3 [(0, .ref hfa)] → k fO = some r0 → GX0_foundPeriod p l e s m args below meth c D cy A hfa hfp hft fN fG fP fT r0 H locs (F0 m 110 ls [])) : ∀ (fO : Int64) (x2 : Int32) (H : Heap) (locs : List Loc) (ls : Array Slot), va_P D vwCl [(hfa, .inr (0, [.ref hfp, .ref hft, .int fN, .long fO, .long fG])), (hfp, .inl (cy 1, 9, .inr (.inl fP))), (hft, .inl (cy 0, 9, .inl fT))] H → va_D A [(hfa, .inr (0, [.ref hfp, .ref hft, .int fN, .long fO, .long fG])), (hfp, .inl (cy 1, 9, .inr (.inl fP))), (hft, .inl (cy 0, 9, .inl fT))] → va_S A s.heap H locs → lv_has ls 3 [(0, .ref hfa), (1, .int x1), (2, .int x2)] → fX0_foundPeriod_B80 N fN fP fT x1 self k fO x2 = some r0 → GX0_foundPeriod p l e s m args below meth c D cy A hfa hfp hft fN fG fP fT r0 H locs (F0 m 80 ls []) := by
  obtain ⟨⟨hx, hb, hml, hown, hts⟩, hr, hlocks, hB⟩ := id E0
  have hK := hB.1
  have hN := hB.2
  intro fO x2 H locs ls hP hD hS hl hf
  unfold fX0_foundPeriod_B80 at hf
  refine lv_iload_n hx hb dX0_foundPeriod_80 rfl (lv_at hl 2 rfl) ?_
  refine lv_bipush (v := (32 : Int32)) hx hb dX0_foundPeriod_81 (by decide) ?_
  refine lv_icmp_ge (tgt := 110) hx hb dX0_foundPeriod_83 (by decide) (fun c_19 => ?_) (fun c_19 => ?_)
  · have hf := ite_t hf c_19
    exact hk _ _ _ _ hP hD hS (lv_sub hl [0] rfl) hf
  · have hf := ite_f hf c_19
    refine lv_iload_n hx hb dX0_foundPeriod_86 rfl (lv_at hl 2 rfl) ?_
    refine lv_iload_n hx hb dX0_foundPeriod_87 rfl (lv_at hl 1 rfl) ?_
    refine lv_icmp_ge (tgt := 110) hx hb dX0_foundPeriod_88 (by decide) (fun c_20 => ?_) (fun c_20 => ?_)
    · have hf := ite_t hf c_20
      exact hk _ _ _ _ hP hD hS (lv_sub hl [0] rfl) hf
    · have hf := ite_f hf c_20
      refine lv_aload_n hx hb dX0_foundPeriod_91 rfl (lv_at hl 0 rfl) ?_
      refine lv_dup hx hb dX0_foundPeriod_92 rfl ?_
      refine va_get (D := D) (ci := 0) (v := .long fO) (C := RX0) (T := TX0) (N := 5) hx hb hts inX0_foundPeriod_X0 hown hK hP 0 rfl rfl 3 (by decide) (hts _ mX0_foundPeriod_0) (fun _ h9 => h9) rfl dX0_foundPeriod_93 ?_
      refine lv_ldc2 (v := (2 : Int64)) hx hb hown (hts _ mX0_foundPeriod_4) dX0_foundPeriod_96 ?_
      refine lv_lmul hx hb dX0_foundPeriod_99 ?_
      refine va_put (D := D) (ci := 0) (v := .long (fO * (2 : Int64))) (ty := .long) (C := RX0) (T := TX0) (N := 5) hx hb hts inX0_foundPeriod_X0 tyX0 tyX0_ok nmX0 hown hK hP hD hS 0 rfl rfl 3 (by decide) (hts _ mX0_foundPeriod_0) (fun _ h9 => h9) rfl (by decide +kernel) rfl rfl (Nat.le_of_ble_eq_true rfl) dX0_foundPeriod_100 (fun H21 locs22 hP hD hS => ?_)
      have hP : va_P D vwCl [(hfa, .inr (0, [.ref hfp, .ref hft, .int fN, .long (fO * (2 : Int64)), .long fG])), (hfp, .inl (cy 1, 9, .inr (.inl fP))), (hft, .inl (cy 0, 9, .inl fT))] H21 := hP
      have hD : va_D A [(hfa, .inr (0, [.ref hfp, .ref hft, .int fN, .long (fO * (2 : Int64)), .long fG])), (hfp, .inl (cy 1, 9, .inr (.inl fP))), (hft, .inl (cy 0, 9, .inl fT))] := hD
      refine lv_iload_n hx hb dX0_foundPeriod_103 rfl (lv_at hl 2 rfl) ?_
      refine lv_iconst (v := (2 : Int32)) hx hb dX0_foundPeriod_104 (by decide) ?_
      refine lv_imul hx hb dX0_foundPeriod_105 ?_
      refine lv_istore_n (lv' := [(2, .int (x2 * (2 : Int32))), (0, .ref hfa), (1, .int x1)]) hx hb dX0_foundPeriod_106 rfl hl (by decide) rfl (fun ls hl => ?_)
      refine lv_goto (tgt := 80) hx hb dX0_foundPeriod_107 (by decide) ?_
      exact hself _ _ _ _ _ hP hD hS (lv_sub hl [1, 2, 0] rfl) hf
theorem wX0_foundPeriod_L80 {p : Program} {l : Launch} {e : Env} {s : State} {m : MethodId} {args : Array Value} {below : List Frame} {meth : Method} {c : Code} {D : va_G} {cy : Nat → ClassId} {A : Nat → Prop} {hfa hfp hft tPR : Nat} {fG : Int64} {r0 : Int64 × Int64} (E0 : En p m c cX0_foundPeriod 3 s args wsX0_foundPeriod RX0 meth (some .long) D cy) (N : Nat) (fN : Int32) (fP : Nat → Int64) (fT : Nat → Int32) (x1 : Int32) (hA : ∀ q, s.heap.size ≤ q → A q) (hZ : ST0 tPR A s s.heap) (k : Int64 → Option (Int64 × Int64)) (hk : ∀ (fO : Int64) (H : Heap) (locs : List Loc) (ls : Array Slot), va_P D vwCl [(hfa, .inr (0, [.ref hfp, .ref hft, .int fN, .long fO, .long fG])), (hfp, .inl (cy 1, 9, .inr (.inl fP))), (hft, .inl (cy 0, 9, .inl fT))] H → va_D A [(hfa, .inr (0, [.ref hfp, .ref hft, .int fN, .long fO, .long fG])), (hfp, .inl (cy 1, 9, .inr (.inl fP))), (hft, .inl (cy 0, 9, .inl fT))] → va_S A s.heap H locs → lv_has ls 3 [(0, .ref hfa)] → k fO = some r0 → GX0_foundPeriod p l e s m args below meth c D cy A hfa hfp hft fN fG fP fT r0 H locs (F0 m 110 ls [])) : ∀ (n : Nat), ∀ (fO : Int64) (x2 : Int32) (H : Heap) (locs : List Loc) (ls : Array Slot), va_P D vwCl [(hfa, .inr (0, [.ref hfp, .ref hft, .int fN, .long fO, .long fG])), (hfp, .inl (cy 1, 9, .inr (.inl fP))), (hft, .inl (cy 0, 9, .inl fT))] H → va_D A [(hfa, .inr (0, [.ref hfp, .ref hft, .int fN, .long fO, .long fG])), (hfp, .inl (cy 1, 9, .inr (.inl fP))), (hft, .inl (cy 0, 9, .inl fT))] → va_S A s.heap H locs → lv_has ls 3 [(0, .ref hfa), (1, .int x1), (2, .int x2)] → fX0_foundPeriod_L80 N fN fP fT x1 k n fO x2 = some r0 → GX0_foundPeriod p l e s m args below meth c D cy A hfa hfp hft fN fG fP fT r0 H locs (F0 m 80 ls []) := by
  intro n
  induction n with
  | zero => intro fO x2 H locs ls hP hD hS hl hf; cases hf
  | succ n ih => exact wX0_foundPeriod_B80 E0 N fN fP fT x1 hA hZ _ ih k hk
set_option maxHeartbeats 4000000 in
set_option maxRecDepth 100000 in
theorem ctX0_foundPeriod (l : Launch) (D : va_G) (cy : Nat → ClassId) (N : Nat) (hfa hfp hft tPR : Nat) (sz : Nat) (fN : Int32) (fO : Int64) (fG : Int64) (fP : Nat → Int64) (fT : Nat → Int32)  (r0 : Int64 × Int64) (hf : fX0_foundPeriod N fN fO fP fT = some r0) : Met l yX0_foundPeriod wsX0_foundPeriod rX0_foundPeriod (va_Pc [.ref hfa] (WrT D cy [(hfa, .inr (0, [.ref hfp, .ref hft, .int fN, .long fO, .long fG])), (hfp, .inl (cy 1, 9, .inr (.inl fP))), (hft, .inl (cy 0, 9, .inl fT))] sz (ST0 tPR (va_A [(hfa, .inr (0, [.ref hfp, .ref hft, .int fN, .long fO, .long fG])), (hfp, .inl (cy 1, 9, .inr (.inl fP))), (hft, .inl (cy 0, 9, .inl fT))] sz)))) (Qwl D (va_A [(hfa, .inr (0, [.ref hfp, .ref hft, .int fN, .long fO, .long fG])), (hfp, .inl (cy 1, 9, .inr (.inl fP))), (hft, .inl (cy 0, 9, .inl fT))] sz) [(hfa, .inr (0, [.ref hfp, .ref hft, .int fN, .long r0.2, .long fG])), (hfp, .inl (cy 1, 9, .inr (.inl fP))), (hft, .inl (cy 0, 9, .inl fT))] r0.1) 0 0 (va_A [(hfa, .inr (0, [.ref hfp, .ref hft, .int fN, .long fO, .long fG])), (hfp, .inl (cy 1, 9, .inr (.inl fP))), (hft, .inl (cy 0, 9, .inl fT))] sz) := by
  refine Met.ofW (cc := cX0_foundPeriod) (maxL := 3) (ret := (some .long)) (by decide) rfl ?_
  intro p e s m args below meth c s₁ B hml hv
  obtain ⟨rfl, hsz, hP, hD0, hB, hZ⟩ := hv
  have hx := B.exec
  have hb := B.bytes
  have hr := B.returns
  have hts := atoms_spec (ws := wsX0_foundPeriod) B.pre
  have hown : s.vm.findClass RX0 = some m.cls := findClass_of_methodNamed B.named
  have hlocks := B.notSynchronized
  have hK := hB.1
  have hN := hB.2
  subst hsz
  have hD := hD0.self (sz := s.heap.size)
  have hA : ∀ q : Nat, s.heap.size ≤ q → va_A [(hfa, .inr (0, [.ref hfp, .ref hft, .int fN, .long fO, .long fG])), (hfp, .inl (cy 1, 9, .inr (.inl fP))), (hft, .inl (cy 0, 9, .inl fT))] s.heap.size q := fun q h => Or.inr h
  generalize va_A [(hfa, .inr (0, [.ref hfp, .ref hft, .int fN, .long fO, .long fG])), (hfp, .inl (cy 1, 9, .inr (.inl fP))), (hft, .inl (cy 0, 9, .inl fT))] s.heap.size = A at hD hA hZ ⊢
  have hS : va_S A s.heap s.heap [] := va_S.rf
  have hl := lv_entry ([.ref hfa]) (n := 3) (Nat.le_of_ble_eq_true rfl)
  rw [lg_entry_eq]
  generalize (lg_sl ([.ref hfa]) ++ List.replicate (3 - (lg_sl ([.ref hfa])).length) Slot.unset).toArray = ls at hl ⊢
  have hl : lv_has ls 3 [(0, .ref hfa)] := hl
  have E0 : En p m c cX0_foundPeriod 3 s ([.ref hfa] : List Value).toArray wsX0_foundPeriod RX0 meth (some .long) D cy := ⟨⟨hx, hb, hml, hown, hts⟩, hr, hlocks, hB⟩
  unfold fX0_foundPeriod at hf
  refine lv_aload_n hx hb dX0_foundPeriod_0 rfl (lv_at hl 0 rfl) ?_
  refine va_get (D := D) (ci := 0) (v := .long fO) (C := RX0) (T := TX0) (N := 5) hx hb hts inX0_foundPeriod_X0 hown hK hP 0 rfl rfl 3 (by decide) (hts _ mX0_foundPeriod_0) (fun _ h9 => h9) rfl dX0_foundPeriod_1 ?_
  refine lv_lconst (v := (0 : Int64)) hx hb dX0_foundPeriod_4 (by decide) ?_
  refine zz_lc_eq (tgt := 14) hx hb dX0_foundPeriod_5 dX0_foundPeriod_6 (by decide) (fun c_1 => ?_) (fun c_1 => ?_)
  · have hf := ite_t hf c_1
    refine lv_iconst (v := (1 : Int32)) hx hb dX0_foundPeriod_14 (by decide) ?_
    refine lv_istore_n (lv' := [(1, .int (1 : Int32)), (0, .ref hfa)]) hx hb dX0_foundPeriod_15 rfl hl (by decide) rfl (fun ls hl => ?_)
    refine lv_aload_n hx hb dX0_foundPeriod_16 rfl (lv_at hl 1 rfl) ?_
    refine lv_lconst (v := (1 : Int64)) hx hb dX0_foundPeriod_17 (by decide) ?_
    refine va_put (D := D) (ci := 0) (v := .long (1 : Int64)) (ty := .long) (C := RX0) (T := TX0) (N := 5) hx hb hts inX0_foundPeriod_X0 tyX0 tyX0_ok nmX0 hown hK hP hD hS 0 rfl rfl 3 (by decide) (hts _ mX0_foundPeriod_0) (fun _ h9 => h9) rfl (by decide +kernel) rfl rfl (Nat.le_of_ble_eq_true rfl) dX0_foundPeriod_18 (fun H2 locs3 hP hD hS => ?_)
    have hP : va_P D vwCl [(hfa, .inr (0, [.ref hfp, .ref hft, .int fN, .long (1 : Int64), .long fG])), (hfp, .inl (cy 1, 9, .inr (.inl fP))), (hft, .inl (cy 0, 9, .inl fT))] H2 := hP
    have hD : va_D A [(hfa, .inr (0, [.ref hfp, .ref hft, .int fN, .long (1 : Int64), .long fG])), (hfp, .inl (cy 1, 9, .inr (.inl fP))), (hft, .inl (cy 0, 9, .inl fT))] := hD
    refine lv_iconst (v := (0 : Int32)) hx hb dX0_foundPeriod_21 (by decide) ?_
    refine lv_istore_n (lv' := [(2, .int (0 : Int32)), (1, .int (1 : Int32)), (0, .ref hfa)]) hx hb dX0_foundPeriod_22 rfl hl (by decide) rfl (fun ls hl => ?_)
    refine wX0_foundPeriod_L23 E0 N fN fP fT  hA hZ _ (fun fO_15 x1_16 H17 locs18 ls hP hD hS hl hf => ?_) N _ _ _ _ _ _ hP hD hS (lv_sub hl [2, 1, 0] rfl) hf
    refine lv_iconst (v := (1 : Int32)) hx hb dX0_foundPeriod_78 (by decide) ?_
    refine lv_istore_n (lv' := [(2, .int (1 : Int32)), (0, .ref hfa), (1, .int x1_16)]) hx hb dX0_foundPeriod_79 rfl hl (by decide) rfl (fun ls hl => ?_)
    refine wX0_foundPeriod_L80 E0 N fN fP fT x1_16 hA hZ _ (fun fO_23 H24 locs25 ls hP hD hS hl hf => ?_) N _ _ _ _ _ hP hD hS (lv_sub hl [1, 2, 0] rfl) hf
    refine lv_aload_n hx hb dX0_foundPeriod_110 rfl (lv_at hl 0 rfl) ?_
    refine va_get (D := D) (ci := 0) (v := .long fO_23) (C := RX0) (T := TX0) (N := 5) hx hb hts inX0_foundPeriod_X0 hown hK hP 0 rfl rfl 3 (by decide) (hts _ mX0_foundPeriod_0) (fun _ h9 => h9) rfl dX0_foundPeriod_111 ?_
    cases hf
    exact W.lret (v := fO_23) hx hb hr (fun t ht hW => ⟨⟨_, (), rfl, rfl, by rw [ht]; exact hP, hD⟩, hS.F ht⟩) hS.2.2 dX0_foundPeriod_114
  · have hf := ite_f hf c_1
    refine lv_aload_n hx hb dX0_foundPeriod_9 rfl (lv_at hl 0 rfl) ?_
    refine va_get (D := D) (ci := 0) (v := .long fO) (C := RX0) (T := TX0) (N := 5) hx hb hts inX0_foundPeriod_X0 hown hK hP 0 rfl rfl 3 (by decide) (hts _ mX0_foundPeriod_0) (fun _ h9 => h9) rfl dX0_foundPeriod_10 ?_
    cases hf
    exact W.lret (v := fO) hx hb hr (fun t ht hW => ⟨⟨_, (), rfl, rfl, by rw [ht]; exact hP, hD⟩, hS.F ht⟩) hS.2.2 dX0_foundPeriod_13

/-! SumForms$Polynomials.degree(J)I -/
abbrev rX2_degree : Room := { frames := 0, cells := 0, slots := 0, locals := 0 }
abbrev GX2_degree (p : Program) (l : Launch) (e : Env) (s : State) (m : MethodId) (args : Array Value) (below : List Frame) (meth : Method) (c : Code) (r0 : Int32) (fr : JFrame) : Prop := W p l e (headSpec wsX2_degree rX2_degree).room s m args below meth c s.heap [] 0 0 (MQ below (vp_Si (fun r => r = r0)) args s 0 0 (fun _ => False)) fr
def fX2_degree_B13 (N : Nat) (x0 : Int64) (self : Int32 → Int32 → Option (Int32)) (k : Int32 → Option (Int32)) (x2 : Int32) (x3 : Int32) : Option (Int32) := (if x3 ≤ 0 then (k x2) else (if (lUsh x0 (x2 + x3)) = (0 : Int64) then (self x2 (iShr x3 (1 : Int32))) else (self (x2 + x3) (iShr x3 (1 : Int32)))))
def fX2_degree_L13 (N : Nat) (x0 : Int64) (k : Int32 → Option (Int32)) : Nat → Int32 → Int32 → Option (Int32)
  | 0 => fun _ _ => none
  | n + 1 => fun x2 x3 => fX2_degree_B13 N x0 (fX2_degree_L13 N x0 k n) k x2 x3
def fX2_degree (N : Nat)  (x0 : Int64) : Option (Int32) := (if x0 = (0 : Int64) then (some (-1 : Int32)) else (fX2_degree_L13 N x0 (fun x2_4 => (some x2_4)) N (0 : Int32) (32 : Int32)))
set_option maxHeartbeats 4000000 in
set_option maxRecDepth 100000 in
theorem wX2_degree_B13 {p : Program} {l : Launch} {e : Env} {s : State} {m : MethodId} {args : Array Value} {below : List Frame} {meth : Method} {c : Code} {D : va_G} {cy : Nat → ClassId} {r0 : Int32} (E0 : En p m c cX2_degree 4 s args wsX2_degree RX2 meth (some .int) D cy) (N : Nat) (x0 : Int64) (hP : va_P D vwCl [] s.heap) (self : Int32 → Int32 → Option (Int32)) (hself : ∀ (x2 : Int32) (x3 : Int32) (ls : Array Slot), lv_has ls 4 [(0, .long x0), (2, .int x2), (3, .int x3)] → self x2 x3 = some r0 → GX2_degree p l e s m args below meth c r0 (F0 m 13 ls [])) (k : Int32 → Option (Int32)) (hk : ∀ (x2 : Int32) (ls : Array Slot), lv_has ls 4 [(2, .int x2)] → k x2 = some r0 → GX2_degree p l e s m args below meth c r0 (F0 m 38 ls [])) : ∀ (x2 : Int32) (x3 : Int32) (ls : Array Slot), lv_has ls 4 [(0, .long x0), (2, .int x2), (3, .int x3)] → fX2_degree_B13 N x0 self k x2 x3 = some r0 → GX2_degree p l e s m args below meth c r0 (F0 m 13 ls []) := by
  obtain ⟨⟨hx, hb, hml, hown, hts⟩, hr, hlocks, hB⟩ := id E0
  have hK := hB.1
  have hN := hB.2
  intro x2 x3 ls hl hf
  unfold fX2_degree_B13 at hf
  refine lv_iload_n hx hb dX2_degree_13 rfl (lv_at hl 2 rfl) ?_
  refine lv_if_le (tgt := 38) hx hb dX2_degree_14 (by decide) (fun c_2 => ?_) (fun c_2 => ?_)
  · have hf := ite_t hf c_2
    exact hk _ _ (lv_sub hl [1] rfl) hf
  · have hf := ite_f hf c_2
    refine lv_lload_n hx hb dX2_degree_17 rfl (lv_at hl 0 rfl) ?_
    refine lv_iload_n hx hb dX2_degree_18 rfl (lv_at hl 1 rfl) ?_
    refine lv_iload_n hx hb dX2_degree_19 rfl (lv_at hl 2 rfl) ?_
    refine lv_iadd hx hb dX2_degree_20 ?_
    refine zz_lushr hx hb dX2_degree_21 ?_
    refine lv_lconst (v := (0 : Int64)) hx hb dX2_degree_22 (by decide) ?_
    refine zz_lc_eq (tgt := 31) hx hb dX2_degree_23 dX2_degree_24 (by decide) (fun c_3 => ?_) (fun c_3 => ?_)
    · have hf := ite_t hf c_3
      refine lv_iload_n hx hb dX2_degree_31 rfl (lv_at hl 2 rfl) ?_
      refine lv_iconst (v := (1 : Int32)) hx hb dX2_degree_32 (by decide) ?_
      refine zz_ishr hx hb dX2_degree_33 ?_
      refine lv_istore_n (lv' := [(3, .int (iShr x3 (1 : Int32))), (0, .long x0), (2, .int x2)]) hx hb dX2_degree_34 rfl hl (by decide) rfl (fun ls hl => ?_)
      refine lv_goto (tgt := 13) hx hb dX2_degree_35 (by decide) ?_
      exact hself _ _ _ (lv_sub hl [1, 2, 0] rfl) hf
    · have hf := ite_f hf c_3
      refine lv_iload_n hx hb dX2_degree_27 rfl (lv_at hl 1 rfl) ?_
      refine lv_iload_n hx hb dX2_degree_28 rfl (lv_at hl 2 rfl) ?_
      refine lv_iadd hx hb dX2_degree_29 ?_
      refine lv_istore_n (lv' := [(2, .int (x2 + x3)), (0, .long x0), (3, .int x3)]) hx hb dX2_degree_30 rfl hl (by decide) rfl (fun ls hl => ?_)
      refine lv_iload_n hx hb dX2_degree_31 rfl (lv_at hl 2 rfl) ?_
      refine lv_iconst (v := (1 : Int32)) hx hb dX2_degree_32 (by decide) ?_
      refine zz_ishr hx hb dX2_degree_33 ?_
      refine lv_istore_n (lv' := [(3, .int (iShr x3 (1 : Int32))), (2, .int (x2 + x3)), (0, .long x0)]) hx hb dX2_degree_34 rfl hl (by decide) rfl (fun ls hl => ?_)
      refine lv_goto (tgt := 13) hx hb dX2_degree_35 (by decide) ?_
      exact hself _ _ _ (lv_sub hl [2, 1, 0] rfl) hf
theorem wX2_degree_L13 {p : Program} {l : Launch} {e : Env} {s : State} {m : MethodId} {args : Array Value} {below : List Frame} {meth : Method} {c : Code} {D : va_G} {cy : Nat → ClassId} {r0 : Int32} (E0 : En p m c cX2_degree 4 s args wsX2_degree RX2 meth (some .int) D cy) (N : Nat) (x0 : Int64) (hP : va_P D vwCl [] s.heap) (k : Int32 → Option (Int32)) (hk : ∀ (x2 : Int32) (ls : Array Slot), lv_has ls 4 [(2, .int x2)] → k x2 = some r0 → GX2_degree p l e s m args below meth c r0 (F0 m 38 ls [])) : ∀ (n : Nat), ∀ (x2 : Int32) (x3 : Int32) (ls : Array Slot), lv_has ls 4 [(0, .long x0), (2, .int x2), (3, .int x3)] → fX2_degree_L13 N x0 k n x2 x3 = some r0 → GX2_degree p l e s m args below meth c r0 (F0 m 13 ls []) := by
  intro n
  induction n with
  | zero => intro x2 x3 ls hl hf; cases hf
  | succ n ih => exact wX2_degree_B13 E0 N x0 hP _ ih k hk
set_option maxHeartbeats 4000000 in
set_option maxRecDepth 100000 in
theorem ctX2_degree (l : Launch) (D : va_G) (cy : Nat → ClassId) (N : Nat)  (x0 : Int64) (r0 : Int32) (hf : fX2_degree N x0 = some r0) : Met l yX2_degree wsX2_degree rX2_degree (va_Pc [.long x0] (Rd D cy [])) (vp_Si (fun r => r = r0)) 0 0 (fun _ => False) := by
  refine Met.ofW (cc := cX2_degree) (maxL := 4) (ret := (some .int)) (by decide) rfl ?_
  intro p e s m args below meth c s₁ B hml hv
  obtain ⟨rfl, hP, hB⟩ := hv
  have hx := B.exec
  have hb := B.bytes
  have hr := B.returns
  have hts := atoms_spec (ws := wsX2_degree) B.pre
  have hown : s.vm.findClass RX2 = some m.cls := findClass_of_methodNamed B.named
  have hlocks := B.notSynchronized
  have hK := hB.1
  have hN := hB.2
  have hl := lv_entry ([.long x0]) (n := 4) (Nat.le_of_ble_eq_true rfl)
  rw [lg_entry_eq]
  generalize (lg_sl ([.long x0]) ++ List.replicate (4 - (lg_sl ([.long x0])).length) Slot.unset).toArray = ls at hl ⊢
  have hl : lv_has ls 4 [(0, .long x0)] := hl
  have E0 : En p m c cX2_degree 4 s ([.long x0] : List Value).toArray wsX2_degree RX2 meth (some .int) D cy := ⟨⟨hx, hb, hml, hown, hts⟩, hr, hlocks, hB⟩
  unfold fX2_degree at hf
  refine lv_lload_n hx hb dX2_degree_0 rfl (lv_at hl 0 rfl) ?_
  refine lv_lconst (v := (0 : Int64)) hx hb dX2_degree_1 (by decide) ?_
  refine zz_lc_ne (tgt := 8) hx hb dX2_degree_2 dX2_degree_3 (by decide) (fun c_1 => ?_) (fun c_1 => ?_)
  · have hf := ite_f hf c_1
    refine lv_iconst (v := (0 : Int32)) hx hb dX2_degree_8 (by decide) ?_
    refine lv_istore_n (lv' := [(2, .int (0 : Int32)), (0, .long x0)]) hx hb dX2_degree_9 rfl hl (by decide) rfl (fun ls hl => ?_)
    refine lv_bipush (v := (32 : Int32)) hx hb dX2_degree_10 (by decide) ?_
    refine lv_istore_n (lv' := [(3, .int (32 : Int32)), (2, .int (0 : Int32)), (0, .long x0)]) hx hb dX2_degree_12 rfl hl (by decide) rfl (fun ls hl => ?_)
    refine wX2_degree_L13 E0 N x0 hP _ (fun x2_4 ls hl hf => ?_) N _ _ _ (lv_sub hl [2, 1, 0] rfl) hf
    refine lv_iload_n hx hb dX2_degree_38 rfl (lv_at hl 0 rfl) ?_
    exact W.iret (v := x2_4) hx hb hr (fun t ht hW => ⟨_, rfl, Option.some.inj hf, ht⟩) (fun _ h => absurd h List.not_mem_nil) dX2_degree_39
  · have hf := ite_t hf c_1
    refine lv_iconst (v := (-1 : Int32)) hx hb dX2_degree_6 (by decide) ?_
    exact W.iret (v := (-1 : Int32)) hx hb hr (fun t ht hW => ⟨_, rfl, Option.some.inj hf, ht⟩) (fun _ h => absurd h List.not_mem_nil) dX2_degree_7
/-! SumForms$Polynomials.remainder(JJ)J -/
abbrev rX2_remainder : Room := { frames := 1, cells := 0, slots := 0, locals := 23 }
abbrev GX2_remainder (p : Program) (l : Launch) (e : Env) (s : State) (m : MethodId) (args : Array Value) (below : List Frame) (meth : Method) (c : Code) (r0 : Int64) (fr : JFrame) : Prop := W p l e (headSpec wsX2_remainder rX2_remainder).room s m args below meth c s.heap [] 0 0 (MQ below (vp_Sl (fun r => r = r0)) args s 0 0 (fun _ => False)) fr
def fX2_remainder_B22 (N : Nat) (x2 : Int64) (x4 : Int32) (self : Int64 → Int32 → Option (Int64)) (k : Int64 → Option (Int64)) (x5 : Int64) (x7 : Int32) : Option (Int64) := (if x7 < x4 then (k x5) else (if ((lUsh x5 x7) &&& (1 : Int64)) = (0 : Int64) then (self x5 (x7 + (-1 : Int32))) else (self (x5 ^^^ (lShl x2 (x7 - x4))) (x7 + (-1 : Int32)))))
def fX2_remainder_L22 (N : Nat) (x2 : Int64) (x4 : Int32) (k : Int64 → Option (Int64)) : Nat → Int64 → Int32 → Option (Int64)
  | 0 => fun _ _ => none
  | n + 1 => fun x5 x7 => fX2_remainder_B22 N x2 x4 (fX2_remainder_L22 N x2 x4 k n) k x5 x7
def fX2_remainder (N : Nat)  (x0 : Int64) (x2 : Int64) : Option (Int64) := ((fX2_degree N x2).bind (fun r_1 => (if 0 ≤ r_1 then ((fX2_degree N x0).bind (fun r_4 => (fX2_remainder_L22 N x2 r_1 (fun x5_8 => (some x5_8)) N x0 r_4))) else (some x0))))
set_option maxHeartbeats 4000000 in
set_option maxRecDepth 100000 in
theorem wX2_remainder_B22 {p : Program} {l : Launch} {e : Env} {s : State} {m : MethodId} {args : Array Value} {below : List Frame} {meth : Method} {c : Code} {D : va_G} {cy : Nat → ClassId} {r0 : Int64} (E0 : En p m c cX2_remainder 8 s args wsX2_remainder RX2 meth (some .long) D cy) (N : Nat) (x2 : Int64) (x4 : Int32) (hP : va_P D vwCl [] s.heap) (self : Int64 → Int32 → Option (Int64)) (hself : ∀ (x5 : Int64) (x7 : Int32) (ls : Array Slot), lv_has ls 8 [(2, .long x2), (4, .int x4), (5, .long x5), (7, .int x7)] → self x5 x7 = some r0 → GX2_remainder p l e s m args below meth c r0 (F0 m 22 ls [])) (k : Int64 → Option (Int64)) (hk : ∀ (x5 : Int64) (ls : Array Slot), lv_has ls 8 [(5, .long x5)] → k x5 = some r0 → GX2_remainder p l e s m args below meth c r0 (F0 m 59 ls [])) : ∀ (x5 : Int64) (x7 : Int32) (ls : Array Slot), lv_has ls 8 [(2, .long x2), (4, .int x4), (5, .long x5), (7, .int x7)] → fX2_remainder_B22 N x2 x4 self k x5 x7 = some r0 → GX2_remainder p l e s m args below meth c r0 (F0 m 22 ls []) := by
  obtain ⟨⟨hx, hb, hml, hown, hts⟩, hr, hlocks, hB⟩ := id E0
  have hK := hB.1
  have hN := hB.2
  intro x5 x7 ls hl hf
  unfold fX2_remainder_B22 at hf
  refine lv_iload hx hb dX2_remainder_22 (lv_at hl 3 rfl) ?_
  refine lv_iload hx hb dX2_remainder_24 (lv_at hl 1 rfl) ?_
  refine lv_icmp_lt (tgt := 59) hx hb dX2_remainder_26 (by decide) (fun c_6 => ?_) (fun c_6 => ?_)
  · have hf := ite_t hf c_6
    exact hk _ _ (lv_sub hl [2] rfl) hf
  · have hf := ite_f hf c_6
    refine lv_lload hx hb dX2_remainder_29 (lv_at hl 2 rfl) ?_
    refine lv_iload hx hb dX2_remainder_31 (lv_at hl 3 rfl) ?_
    refine zz_lushr hx hb dX2_remainder_33 ?_
    refine lv_lconst (v := (1 : Int64)) hx hb dX2_remainder_34 (by decide) ?_
    refine lv_land hx hb dX2_remainder_35 ?_
    refine lv_lconst (v := (0 : Int64)) hx hb dX2_remainder_36 (by decide) ?_
    refine zz_lc_eq (tgt := 53) hx hb dX2_remainder_37 dX2_remainder_38 (by decide) (fun c_7 => ?_) (fun c_7 => ?_)
    · have hf := ite_t hf c_7
      refine lv_iinc (v := (x7 + (-1 : Int32))) (lv' := [(7, .int (x7 + (-1 : Int32))), (2, .long x2), (4, .int x4), (5, .long x5)]) hx hb dX2_remainder_53 hl (k := 3) rfl rfl (by decide) rfl (fun ls hl => ?_)
      refine lv_goto (tgt := 22) hx hb dX2_remainder_56 (by decide) ?_
      exact hself _ _ _ (lv_sub hl [1, 2, 3, 0] rfl) hf
    · have hf := ite_f hf c_7
      refine lv_lload hx hb dX2_remainder_41 (lv_at hl 2 rfl) ?_
      refine lv_lload_n hx hb dX2_remainder_43 rfl (lv_at hl 0 rfl) ?_
      refine lv_iload hx hb dX2_remainder_44 (lv_at hl 3 rfl) ?_
      refine lv_iload hx hb dX2_remainder_46 (lv_at hl 1 rfl) ?_
      refine lv_isub hx hb dX2_remainder_48 ?_
      refine zz_lshl hx hb dX2_remainder_49 ?_
      refine lv_lxor hx hb dX2_remainder_50 ?_
      refine lv_lstore (lv' := [(5, .long (x5 ^^^ (lShl x2 (x7 - x4)))), (2, .long x2), (4, .int x4), (7, .int x7)]) hx hb dX2_remainder_51 hl (by decide) rfl (fun ls hl => ?_)
      refine lv_iinc (v := (x7 + (-1 : Int32))) (lv' := [(7, .int (x7 + (-1 : Int32))), (5, .long (x5 ^^^ (lShl x2 (x7 - x4)))), (2, .long x2), (4, .int x4)]) hx hb dX2_remainder_53 hl (k := 3) rfl rfl (by decide) rfl (fun ls hl => ?_)
      refine lv_goto (tgt := 22) hx hb dX2_remainder_56 (by decide) ?_
      exact hself _ _ _ (lv_sub hl [2, 3, 1, 0] rfl) hf
theorem wX2_remainder_L22 {p : Program} {l : Launch} {e : Env} {s : State} {m : MethodId} {args : Array Value} {below : List Frame} {meth : Method} {c : Code} {D : va_G} {cy : Nat → ClassId} {r0 : Int64} (E0 : En p m c cX2_remainder 8 s args wsX2_remainder RX2 meth (some .long) D cy) (N : Nat) (x2 : Int64) (x4 : Int32) (hP : va_P D vwCl [] s.heap) (k : Int64 → Option (Int64)) (hk : ∀ (x5 : Int64) (ls : Array Slot), lv_has ls 8 [(5, .long x5)] → k x5 = some r0 → GX2_remainder p l e s m args below meth c r0 (F0 m 59 ls [])) : ∀ (n : Nat), ∀ (x5 : Int64) (x7 : Int32) (ls : Array Slot), lv_has ls 8 [(2, .long x2), (4, .int x4), (5, .long x5), (7, .int x7)] → fX2_remainder_L22 N x2 x4 k n x5 x7 = some r0 → GX2_remainder p l e s m args below meth c r0 (F0 m 22 ls []) := by
  intro n
  induction n with
  | zero => intro x5 x7 ls hl hf; cases hf
  | succ n ih => exact wX2_remainder_B22 E0 N x2 x4 hP _ ih k hk
set_option maxHeartbeats 4000000 in
set_option maxRecDepth 100000 in
theorem ctX2_remainder (l : Launch) (D : va_G) (cy : Nat → ClassId) (N : Nat)  (x0 : Int64) (x2 : Int64) (r0 : Int64) (hf : fX2_remainder N x0 x2 = some r0) : Met l yX2_remainder wsX2_remainder rX2_remainder (va_Pc [.long x0, .long x2] (Rd D cy [])) (vp_Sl (fun r => r = r0)) 0 0 (fun _ => False) := by
  refine Met.ofW (cc := cX2_remainder) (maxL := 8) (ret := (some .long)) (by decide) rfl ?_
  intro p e s m args below meth c s₁ B hml hv
  obtain ⟨rfl, hP, hB⟩ := hv
  have hx := B.exec
  have hb := B.bytes
  have hr := B.returns
  have hts := atoms_spec (ws := wsX2_remainder) B.pre
  have hown : s.vm.findClass RX2 = some m.cls := findClass_of_methodNamed B.named
  have hlocks := B.notSynchronized
  have hK := hB.1
  have hN := hB.2
  have hl := lv_entry ([.long x0, .long x2]) (n := 8) (Nat.le_of_ble_eq_true rfl)
  rw [lg_entry_eq]
  generalize (lg_sl ([.long x0, .long x2]) ++ List.replicate (8 - (lg_sl ([.long x0, .long x2])).length) Slot.unset).toArray = ls at hl ⊢
  have hl : lv_has ls 8 [(0, .long x0), (2, .long x2)] := hl
  have E0 : En p m c cX2_remainder 8 s ([.long x0, .long x2] : List Value).toArray wsX2_remainder RX2 meth (some .long) D cy := ⟨⟨hx, hb, hml, hown, hts⟩, hr, hlocks, hB⟩
  unfold fX2_remainder at hf
  refine lv_lload_n hx hb dX2_remainder_0 rfl (lv_at hl 1 rfl) ?_
  obtain ⟨r_1, h_2, hf⟩ := bind_some hf
  have hP_r_1 : va_P D vwCl [] s.heap := hP.sub [] rfl
  refine cz_i (va_runS (As := [.long x2]) (rest := []) ⟨hx, hb, hml, hown, hts⟩ (ctX2_degree l D cy N   x2 r_1 h_2) (va_cwS 1 hts gX2_remainder_X2_degree rfl rfl rfl (by decide +kernel) ⟨Nat.le_of_ble_eq_true rfl, Nat.le_of_ble_eq_true rfl⟩) (preS_rd [.long x2] hP_r_1 hB) rfl rfl hl.1 rfl (lv_room (Nat.le_of_ble_eq_true rfl)) dX2_remainder_1 ⟨Nat.zero_le _, Nat.zero_le _⟩) ?_
  refine lv_istore (lv' := [(4, .int r_1), (0, .long x0), (2, .long x2)]) hx hb dX2_remainder_4 hl (by decide) rfl (fun ls hl => ?_)
  refine lv_iload hx hb dX2_remainder_6 (lv_at hl 0 rfl) ?_
  refine lv_if_ge (tgt := 13) hx hb dX2_remainder_8 (by decide) (fun c_3 => ?_) (fun c_3 => ?_)
  · have hf := ite_t hf c_3
    refine lv_lload_n hx hb dX2_remainder_13 rfl (lv_at hl 1 rfl) ?_
    refine lv_lstore (lv' := [(5, .long x0), (4, .int r_1), (0, .long x0), (2, .long x2)]) hx hb dX2_remainder_14 hl (by decide) rfl (fun ls hl => ?_)
    refine lv_lload_n hx hb dX2_remainder_16 rfl (lv_at hl 2 rfl) ?_
    obtain ⟨r_4, h_5, hf⟩ := bind_some hf
    have hP_r_4 : va_P D vwCl [] s.heap := hP.sub [] rfl
    refine cz_i (va_runS (As := [.long x0]) (rest := []) ⟨hx, hb, hml, hown, hts⟩ (ctX2_degree l D cy N   x0 r_4 h_5) (va_cwS 1 hts gX2_remainder_X2_degree rfl rfl rfl (by decide +kernel) ⟨Nat.le_of_ble_eq_true rfl, Nat.le_of_ble_eq_true rfl⟩) (preS_rd [.long x0] hP_r_4 hB) rfl rfl hl.1 rfl (lv_room (Nat.le_of_ble_eq_true rfl)) dX2_remainder_17 ⟨Nat.zero_le _, Nat.zero_le _⟩) ?_
    refine lv_istore (lv' := [(7, .int r_4), (5, .long x0), (4, .int r_1), (0, .long x0), (2, .long x2)]) hx hb dX2_remainder_20 hl (by decide) rfl (fun ls hl => ?_)
    refine wX2_remainder_L22 E0 N x2 r_1 hP _ (fun x5_8 ls hl hf => ?_) N _ _ _ (lv_sub hl [4, 2, 1, 0] rfl) hf
    refine lv_lload hx hb dX2_remainder_59 (lv_at hl 0 rfl) ?_
    exact W.lret (v := x5_8) hx hb hr (fun t ht hW => ⟨_, rfl, Option.some.inj hf, ht⟩) (fun _ h => absurd h List.not_mem_nil) dX2_remainder_61
  · have hf := ite_f hf c_3
    refine lv_lload_n hx hb dX2_remainder_11 rfl (lv_at hl 1 rfl) ?_
    exact W.lret (v := x0) hx hb hr (fun t ht hW => ⟨_, rfl, Option.some.inj hf, ht⟩) (fun _ h => absurd h List.not_mem_nil) dX2_remainder_12
/-! SumForms$Polynomials.greatestCommon(JJ)J -/
abbrev rX2_greatestCommon : Room := { frames := 2, cells := 0, slots := 0, locals := 50 }
abbrev GX2_greatestCommon (p : Program) (l : Launch) (e : Env) (s : State) (m : MethodId) (args : Array Value) (below : List Frame) (meth : Method) (c : Code) (r0 : Int64) (fr : JFrame) : Prop := W p l e (headSpec wsX2_greatestCommon rX2_greatestCommon).room s m args below meth c s.heap [] 0 0 (MQ below (vp_Sl (fun r => r = r0)) args s 0 0 (fun _ => False)) fr
def fX2_greatestCommon_B9 (N : Nat)  (self : Int64 → Int64 → Int32 → Option (Int64)) (k : Int64 → Option (Int64)) (x4 : Int64) (x6 : Int64) (x8 : Int32) : Option (Int64) := (if (64 : Int32) ≤ x8 then (k x4) else (if x6 = (0 : Int64) then (k x4) else ((fX2_remainder N x4 x6).bind (fun r_3 => (self x6 r_3 (x8 + (1 : Int32)))))))
def fX2_greatestCommon_L9 (N : Nat)  (k : Int64 → Option (Int64)) : Nat → Int64 → Int64 → Int32 → Option (Int64)
  | 0 => fun _ _ _ => none
  | n + 1 => fun x4 x6 x8 => fX2_greatestCommon_B9 N (fX2_greatestCommon_L9 N k n) k x4 x6 x8
def fX2_greatestCommon (N : Nat)  (x0 : Int64) (x2 : Int64) : Option (Int64) := (fX2_greatestCommon_L9 N (fun x4_5 => (some x4_5)) N x0 x2 (0 : Int32))
set_option maxHeartbeats 4000000 in
set_option maxRecDepth 100000 in
theorem wX2_greatestCommon_B9 {p : Program} {l : Launch} {e : Env} {s : State} {m : MethodId} {args : Array Value} {below : List Frame} {meth : Method} {c : Code} {D : va_G} {cy : Nat → ClassId} {r0 : Int64} (E0 : En p m c cX2_greatestCommon 11 s args wsX2_greatestCommon RX2 meth (some .long) D cy) (N : Nat)  (hP : va_P D vwCl [] s.heap) (self : Int64 → Int64 → Int32 → Option (Int64)) (hself : ∀ (x4 : Int64) (x6 : Int64) (x8 : Int32) (ls : Array Slot), lv_has ls 11 [(4, .long x4), (6, .long x6), (8, .int x8)] → self x4 x6 x8 = some r0 → GX2_greatestCommon p l e s m args below meth c r0 (F0 m 9 ls [])) (k : Int64 → Option (Int64)) (hk : ∀ (x4 : Int64) (ls : Array Slot), lv_has ls 11 [(4, .long x4)] → k x4 = some r0 → GX2_greatestCommon p l e s m args below meth c r0 (F0 m 46 ls [])) : ∀ (x4 : Int64) (x6 : Int64) (x8 : Int32) (ls : Array Slot), lv_has ls 11 [(4, .long x4), (6, .long x6), (8, .int x8)] → fX2_greatestCommon_B9 N self k x4 x6 x8 = some r0 → GX2_greatestCommon p l e s m args below meth c r0 (F0 m 9 ls []) := by
  obtain ⟨⟨hx, hb, hml, hown, hts⟩, hr, hlocks, hB⟩ := id E0
  have hK := hB.1
  have hN := hB.2
  intro x4 x6 x8 ls hl hf
  unfold fX2_greatestCommon_B9 at hf
  refine lv_iload hx hb dX2_greatestCommon_9 (lv_at hl 2 rfl) ?_
  refine lv_bipush (v := (64 : Int32)) hx hb dX2_greatestCommon_11 (by decide) ?_
  refine lv_icmp_ge (tgt := 46) hx hb dX2_greatestCommon_13 (by decide) (fun c_1 => ?_) (fun c_1 => ?_)
  · have hf := ite_t hf c_1
    exact hk _ _ (lv_sub hl [0] rfl) hf
  · have hf := ite_f hf c_1
    refine lv_lload hx hb dX2_greatestCommon_16 (lv_at hl 1 rfl) ?_
    refine lv_lconst (v := (0 : Int64)) hx hb dX2_greatestCommon_18 (by decide) ?_
    refine zz_lc_eq (tgt := 46) hx hb dX2_greatestCommon_19 dX2_greatestCommon_20 (by decide) (fun c_2 => ?_) (fun c_2 => ?_)
    · have hf := ite_t hf c_2
      exact hk _ _ (lv_sub hl [0] rfl) hf
    · have hf := ite_f hf c_2
      refine lv_lload hx hb dX2_greatestCommon_23 (lv_at hl 0 rfl) ?_
      refine lv_lload hx hb dX2_greatestCommon_25 (lv_at hl 1 rfl) ?_
      obtain ⟨r_3, h_4, hf⟩ := bind_some hf
      have hP_r_3 : va_P D vwCl [] s.heap := hP.sub [] rfl
      refine cz_l (va_runS (As := [.long x4, .long x6]) (rest := []) ⟨hx, hb, hml, hown, hts⟩ (ctX2_remainder l D cy N   x4 x6 r_3 h_4) (va_cwS 2 hts gX2_greatestCommon_X2_remainder rfl rfl rfl (by decide +kernel) ⟨Nat.le_of_ble_eq_true rfl, Nat.le_of_ble_eq_true rfl⟩) (preS_rd [.long x4, .long x6] hP_r_3 hB) rfl rfl hl.1 rfl (lv_room (Nat.le_of_ble_eq_true rfl)) dX2_greatestCommon_27 ⟨Nat.zero_le _, Nat.zero_le _⟩) ?_
      refine lv_lstore (lv' := [(9, .long r_3), (4, .long x4), (6, .long x6), (8, .int x8)]) hx hb dX2_greatestCommon_30 hl (by decide) rfl (fun ls hl => ?_)
      refine lv_lload hx hb dX2_greatestCommon_32 (lv_at hl 2 rfl) ?_
      refine lv_lstore (lv' := [(4, .long x6), (9, .long r_3), (6, .long x6), (8, .int x8)]) hx hb dX2_greatestCommon_34 hl (by decide) rfl (fun ls hl => ?_)
      refine lv_lload hx hb dX2_greatestCommon_36 (lv_at hl 1 rfl) ?_
      refine lv_lstore (lv' := [(6, .long r_3), (4, .long x6), (9, .long r_3), (8, .int x8)]) hx hb dX2_greatestCommon_38 hl (by decide) rfl (fun ls hl => ?_)
      refine lv_iinc (v := (x8 + (1 : Int32))) (lv' := [(8, .int (x8 + (1 : Int32))), (6, .long r_3), (4, .long x6), (9, .long r_3)]) hx hb dX2_greatestCommon_40 hl (k := 3) rfl rfl (by decide) rfl (fun ls hl => ?_)
      refine lv_goto (tgt := 9) hx hb dX2_greatestCommon_43 (by decide) ?_
      exact hself _ _ _ _ (lv_sub hl [2, 1, 0] rfl) hf
theorem wX2_greatestCommon_L9 {p : Program} {l : Launch} {e : Env} {s : State} {m : MethodId} {args : Array Value} {below : List Frame} {meth : Method} {c : Code} {D : va_G} {cy : Nat → ClassId} {r0 : Int64} (E0 : En p m c cX2_greatestCommon 11 s args wsX2_greatestCommon RX2 meth (some .long) D cy) (N : Nat)  (hP : va_P D vwCl [] s.heap) (k : Int64 → Option (Int64)) (hk : ∀ (x4 : Int64) (ls : Array Slot), lv_has ls 11 [(4, .long x4)] → k x4 = some r0 → GX2_greatestCommon p l e s m args below meth c r0 (F0 m 46 ls [])) : ∀ (n : Nat), ∀ (x4 : Int64) (x6 : Int64) (x8 : Int32) (ls : Array Slot), lv_has ls 11 [(4, .long x4), (6, .long x6), (8, .int x8)] → fX2_greatestCommon_L9 N k n x4 x6 x8 = some r0 → GX2_greatestCommon p l e s m args below meth c r0 (F0 m 9 ls []) := by
  intro n
  induction n with
  | zero => intro x4 x6 x8 ls hl hf; cases hf
  | succ n ih => exact wX2_greatestCommon_B9 E0 N hP _ ih k hk
set_option maxHeartbeats 4000000 in
set_option maxRecDepth 100000 in
theorem ctX2_greatestCommon (l : Launch) (D : va_G) (cy : Nat → ClassId) (N : Nat)  (x0 : Int64) (x2 : Int64) (r0 : Int64) (hf : fX2_greatestCommon N x0 x2 = some r0) : Met l yX2_greatestCommon wsX2_greatestCommon rX2_greatestCommon (va_Pc [.long x0, .long x2] (Rd D cy [])) (vp_Sl (fun r => r = r0)) 0 0 (fun _ => False) := by
  refine Met.ofW (cc := cX2_greatestCommon) (maxL := 11) (ret := (some .long)) (by decide) rfl ?_
  intro p e s m args below meth c s₁ B hml hv
  obtain ⟨rfl, hP, hB⟩ := hv
  have hx := B.exec
  have hb := B.bytes
  have hr := B.returns
  have hts := atoms_spec (ws := wsX2_greatestCommon) B.pre
  have hown : s.vm.findClass RX2 = some m.cls := findClass_of_methodNamed B.named
  have hlocks := B.notSynchronized
  have hK := hB.1
  have hN := hB.2
  have hl := lv_entry ([.long x0, .long x2]) (n := 11) (Nat.le_of_ble_eq_true rfl)
  rw [lg_entry_eq]
  generalize (lg_sl ([.long x0, .long x2]) ++ List.replicate (11 - (lg_sl ([.long x0, .long x2])).length) Slot.unset).toArray = ls at hl ⊢
  have hl : lv_has ls 11 [(0, .long x0), (2, .long x2)] := hl
  have E0 : En p m c cX2_greatestCommon 11 s ([.long x0, .long x2] : List Value).toArray wsX2_greatestCommon RX2 meth (some .long) D cy := ⟨⟨hx, hb, hml, hown, hts⟩, hr, hlocks, hB⟩
  unfold fX2_greatestCommon at hf
  refine lv_lload_n hx hb dX2_greatestCommon_0 rfl (lv_at hl 0 rfl) ?_
  refine lv_lstore (lv' := [(4, .long x0), (0, .long x0), (2, .long x2)]) hx hb dX2_greatestCommon_1 hl (by decide) rfl (fun ls hl => ?_)
  refine lv_lload_n hx hb dX2_greatestCommon_3 rfl (lv_at hl 2 rfl) ?_
  refine lv_lstore (lv' := [(6, .long x2), (4, .long x0), (0, .long x0), (2, .long x2)]) hx hb dX2_greatestCommon_4 hl (by decide) rfl (fun ls hl => ?_)
  refine lv_iconst (v := (0 : Int32)) hx hb dX2_greatestCommon_6 (by decide) ?_
  refine lv_istore (lv' := [(8, .int (0 : Int32)), (6, .long x2), (4, .long x0), (0, .long x0), (2, .long x2)]) hx hb dX2_greatestCommon_7 hl (by decide) rfl (fun ls hl => ?_)
  refine wX2_greatestCommon_L9 E0 N  hP _ (fun x4_5 ls hl hf => ?_) N _ _ _ _ (lv_sub hl [2, 1, 0] rfl) hf
  refine lv_lload hx hb dX2_greatestCommon_46 (lv_at hl 0 rfl) ?_
  exact W.lret (v := x4_5) hx hb hr (fun t ht hW => ⟨_, rfl, Option.some.inj hf, ht⟩) (fun _ h => absurd h List.not_mem_nil) dX2_greatestCommon_48
/-! SumForms$Polynomials.timesX(JJI)J -/
abbrev rX2_timesX : Room := { frames := 0, cells := 0, slots := 0, locals := 0 }
abbrev GX2_timesX (p : Program) (l : Launch) (e : Env) (s : State) (m : MethodId) (args : Array Value) (below : List Frame) (meth : Method) (c : Code) (r0 : Int64) (fr : JFrame) : Prop := W p l e (headSpec wsX2_timesX rX2_timesX).room s m args below meth c s.heap [] 0 0 (MQ below (vp_Sl (fun r => r = r0)) args s 0 0 (fun _ => False)) fr
def fX2_timesX (N : Nat)  (x0 : Int64) (x2 : Int64) (x4 : Int32) : Option (Int64) := (if ((lUsh (lShl x0 (1 : Int32)) x4) &&& (1 : Int64)) = (0 : Int64) then (some (lShl x0 (1 : Int32))) else (some ((lShl x0 (1 : Int32)) ^^^ x2)))
set_option maxHeartbeats 4000000 in
set_option maxRecDepth 100000 in
theorem ctX2_timesX (l : Launch) (D : va_G) (cy : Nat → ClassId) (N : Nat)  (x0 : Int64) (x2 : Int64) (x4 : Int32) (r0 : Int64) (hf : fX2_timesX N x0 x2 x4 = some r0) : Met l yX2_timesX wsX2_timesX rX2_timesX (va_Pc [.long x0, .long x2, .int x4] (Rd D cy [])) (vp_Sl (fun r => r = r0)) 0 0 (fun _ => False) := by
  refine Met.ofW (cc := cX2_timesX) (maxL := 7) (ret := (some .long)) (by decide) rfl ?_
  intro p e s m args below meth c s₁ B hml hv
  obtain ⟨rfl, hP, hB⟩ := hv
  have hx := B.exec
  have hb := B.bytes
  have hr := B.returns
  have hts := atoms_spec (ws := wsX2_timesX) B.pre
  have hown : s.vm.findClass RX2 = some m.cls := findClass_of_methodNamed B.named
  have hlocks := B.notSynchronized
  have hK := hB.1
  have hN := hB.2
  have hl := lv_entry ([.long x0, .long x2, .int x4]) (n := 7) (Nat.le_of_ble_eq_true rfl)
  rw [lg_entry_eq]
  generalize (lg_sl ([.long x0, .long x2, .int x4]) ++ List.replicate (7 - (lg_sl ([.long x0, .long x2, .int x4])).length) Slot.unset).toArray = ls at hl ⊢
  have hl : lv_has ls 7 [(0, .long x0), (2, .long x2), (4, .int x4)] := hl
  have E0 : En p m c cX2_timesX 7 s ([.long x0, .long x2, .int x4] : List Value).toArray wsX2_timesX RX2 meth (some .long) D cy := ⟨⟨hx, hb, hml, hown, hts⟩, hr, hlocks, hB⟩
  unfold fX2_timesX at hf
  refine lv_lload_n hx hb dX2_timesX_0 rfl (lv_at hl 0 rfl) ?_
  refine lv_iconst (v := (1 : Int32)) hx hb dX2_timesX_1 (by decide) ?_
  refine zz_lshl hx hb dX2_timesX_2 ?_
  refine lv_lstore (lv' := [(5, .long (lShl x0 (1 : Int32))), (0, .long x0), (2, .long x2), (4, .int x4)]) hx hb dX2_timesX_3 hl (by decide) rfl (fun ls hl => ?_)
  refine lv_lload hx hb dX2_timesX_5 (lv_at hl 0 rfl) ?_
  refine lv_iload hx hb dX2_timesX_7 (lv_at hl 3 rfl) ?_
  refine zz_lushr hx hb dX2_timesX_9 ?_
  refine lv_lconst (v := (1 : Int64)) hx hb dX2_timesX_10 (by decide) ?_
  refine lv_land hx hb dX2_timesX_11 ?_
  refine lv_lconst (v := (0 : Int64)) hx hb dX2_timesX_12 (by decide) ?_
  refine zz_lc_eq (tgt := 24) hx hb dX2_timesX_13 dX2_timesX_14 (by decide) (fun c_1 => ?_) (fun c_1 => ?_)
  · have hf := ite_t hf c_1
    refine lv_lload hx hb dX2_timesX_24 (lv_at hl 0 rfl) ?_
    exact W.lret (v := (lShl x0 (1 : Int32))) hx hb hr (fun t ht hW => ⟨_, rfl, Option.some.inj hf, ht⟩) (fun _ h => absurd h List.not_mem_nil) dX2_timesX_26
  · have hf := ite_f hf c_1
    refine lv_lload hx hb dX2_timesX_17 (lv_at hl 0 rfl) ?_
    refine lv_lload_n hx hb dX2_timesX_19 rfl (lv_at hl 2 rfl) ?_
    refine lv_lxor hx hb dX2_timesX_20 ?_
    refine lv_goto (tgt := 26) hx hb dX2_timesX_21 (by decide) ?_
    exact W.lret (v := ((lShl x0 (1 : Int32)) ^^^ x2)) hx hb hr (fun t ht hW => ⟨_, rfl, Option.some.inj hf, ht⟩) (fun _ h => absurd h List.not_mem_nil) dX2_timesX_26
/-! SumForms$Polynomials.product(JJJ)J -/
abbrev rX2_product : Room := { frames := 1, cells := 0, slots := 0, locals := 26 }
abbrev GX2_product (p : Program) (l : Launch) (e : Env) (s : State) (m : MethodId) (args : Array Value) (below : List Frame) (meth : Method) (c : Code) (r0 : Int64) (fr : JFrame) : Prop := W p l e (headSpec wsX2_product rX2_product).room s m args below meth c s.heap [] 0 0 (MQ below (vp_Sl (fun r => r = r0)) args s 0 0 (fun _ => False)) fr
def fX2_product_B16 (N : Nat) (x0 : Int64) (x2 : Int64) (x4 : Int64) (x6 : Int32) (self : Int64 → Int32 → Option (Int64)) (k : Int64 → Option (Int64)) (x7 : Int64) (x9 : Int32) : Option (Int64) := (if x9 < 0 then (k x7) else ((fX2_timesX N x7 x4 x6).bind (fun r_4 => (if ((lUsh x2 x9) &&& (1 : Int64)) = (0 : Int64) then (self r_4 (x9 + (-1 : Int32))) else (self (r_4 ^^^ x0) (x9 + (-1 : Int32)))))))
def fX2_product_L16 (N : Nat) (x0 : Int64) (x2 : Int64) (x4 : Int64) (x6 : Int32) (k : Int64 → Option (Int64)) : Nat → Int64 → Int32 → Option (Int64)
  | 0 => fun _ _ => none
  | n + 1 => fun x7 x9 => fX2_product_B16 N x0 x2 x4 x6 (fX2_product_L16 N x0 x2 x4 x6 k n) k x7 x9
def fX2_product (N : Nat)  (x0 : Int64) (x2 : Int64) (x4 : Int64) : Option (Int64) := ((fX2_degree N x4).bind (fun r_1 => (fX2_product_L16 N x0 x2 x4 r_1 (fun x7_7 => (some x7_7)) N (0 : Int64) (r_1 - (1 : Int32)))))
set_option maxHeartbeats 4000000 in
set_option maxRecDepth 100000 in
theorem wX2_product_B16 {p : Program} {l : Launch} {e : Env} {s : State} {m : MethodId} {args : Array Value} {below : List Frame} {meth : Method} {c : Code} {D : va_G} {cy : Nat → ClassId} {r0 : Int64} (E0 : En p m c cX2_product 10 s args wsX2_product RX2 meth (some .long) D cy) (N : Nat) (x0 : Int64) (x2 : Int64) (x4 : Int64) (x6 : Int32) (hP : va_P D vwCl [] s.heap) (self : Int64 → Int32 → Option (Int64)) (hself : ∀ (x7 : Int64) (x9 : Int32) (ls : Array Slot), lv_has ls 10 [(0, .long x0), (2, .long x2), (4, .long x4), (6, .int x6), (7, .long x7), (9, .int x9)] → self x7 x9 = some r0 → GX2_product p l e s m args below meth c r0 (F0 m 16 ls [])) (k : Int64 → Option (Int64)) (hk : ∀ (x7 : Int64) (ls : Array Slot), lv_has ls 10 [(7, .long x7)] → k x7 = some r0 → GX2_product p l e s m args below meth c r0 (F0 m 55 ls [])) : ∀ (x7 : Int64) (x9 : Int32) (ls : Array Slot), lv_has ls 10 [(0, .long x0), (2, .long x2), (4, .long x4), (6, .int x6), (7, .long x7), (9, .int x9)] → fX2_product_B16 N x0 x2 x4 x6 self k x7 x9 = some r0 → GX2_product p l e s m args below meth c r0 (F0 m 16 ls []) := by
  obtain ⟨⟨hx, hb, hml, hown, hts⟩, hr, hlocks, hB⟩ := id E0
  have hK := hB.1
  have hN := hB.2
  intro x7 x9 ls hl hf
  unfold fX2_product_B16 at hf
  refine lv_iload hx hb dX2_product_16 (lv_at hl 5 rfl) ?_
  refine lv_if_lt (tgt := 55) hx hb dX2_product_18 (by decide) (fun c_3 => ?_) (fun c_3 => ?_)
  · have hf := ite_t hf c_3
    exact hk _ _ (lv_sub hl [4] rfl) hf
  · have hf := ite_f hf c_3
    refine lv_lload hx hb dX2_product_21 (lv_at hl 4 rfl) ?_
    refine lv_lload hx hb dX2_product_23 (lv_at hl 2 rfl) ?_
    refine lv_iload hx hb dX2_product_25 (lv_at hl 3 rfl) ?_
    obtain ⟨r_4, h_5, hf⟩ := bind_some hf
    have hP_r_4 : va_P D vwCl [] s.heap := hP.sub [] rfl
    refine cz_l (va_runS (As := [.long x7, .long x4, .int x6]) (rest := []) ⟨hx, hb, hml, hown, hts⟩ (ctX2_timesX l D cy N   x7 x4 x6 r_4 h_5) (va_cwS 3 hts gX2_product_X2_timesX rfl rfl rfl (by decide +kernel) ⟨Nat.le_of_ble_eq_true rfl, Nat.le_of_ble_eq_true rfl⟩) (preS_rd [.long x7, .long x4, .int x6] hP_r_4 hB) rfl rfl hl.1 rfl (lv_room (Nat.le_of_ble_eq_true rfl)) dX2_product_27 ⟨Nat.zero_le _, Nat.zero_le _⟩) ?_
    refine lv_lstore (lv' := [(7, .long r_4), (0, .long x0), (2, .long x2), (4, .long x4), (6, .int x6), (9, .int x9)]) hx hb dX2_product_30 hl (by decide) rfl (fun ls hl => ?_)
    refine lv_lload_n hx hb dX2_product_32 rfl (lv_at hl 2 rfl) ?_
    refine lv_iload hx hb dX2_product_33 (lv_at hl 5 rfl) ?_
    refine zz_lushr hx hb dX2_product_35 ?_
    refine lv_lconst (v := (1 : Int64)) hx hb dX2_product_36 (by decide) ?_
    refine lv_land hx hb dX2_product_37 ?_
    refine lv_lconst (v := (0 : Int64)) hx hb dX2_product_38 (by decide) ?_
    refine zz_lc_eq (tgt := 49) hx hb dX2_product_39 dX2_product_40 (by decide) (fun c_6 => ?_) (fun c_6 => ?_)
    · have hf := ite_t hf c_6
      refine lv_iinc (v := (x9 + (-1 : Int32))) (lv' := [(9, .int (x9 + (-1 : Int32))), (7, .long r_4), (0, .long x0), (2, .long x2), (4, .long x4), (6, .int x6)]) hx hb dX2_product_49 hl (k := 5) rfl rfl (by decide) rfl (fun ls hl => ?_)
      refine lv_goto (tgt := 16) hx hb dX2_product_52 (by decide) ?_
      exact hself _ _ _ (lv_sub hl [2, 3, 4, 5, 1, 0] rfl) hf
    · have hf := ite_f hf c_6
      refine lv_lload hx hb dX2_product_43 (lv_at hl 0 rfl) ?_
      refine lv_lload_n hx hb dX2_product_45 rfl (lv_at hl 1 rfl) ?_
      refine lv_lxor hx hb dX2_product_46 ?_
      refine lv_lstore (lv' := [(7, .long (r_4 ^^^ x0)), (0, .long x0), (2, .long x2), (4, .long x4), (6, .int x6), (9, .int x9)]) hx hb dX2_product_47 hl (by decide) rfl (fun ls hl => ?_)
      refine lv_iinc (v := (x9 + (-1 : Int32))) (lv' := [(9, .int (x9 + (-1 : Int32))), (7, .long (r_4 ^^^ x0)), (0, .long x0), (2, .long x2), (4, .long x4), (6, .int x6)]) hx hb dX2_product_49 hl (k := 5) rfl rfl (by decide) rfl (fun ls hl => ?_)
      refine lv_goto (tgt := 16) hx hb dX2_product_52 (by decide) ?_
      exact hself _ _ _ (lv_sub hl [2, 3, 4, 5, 1, 0] rfl) hf
theorem wX2_product_L16 {p : Program} {l : Launch} {e : Env} {s : State} {m : MethodId} {args : Array Value} {below : List Frame} {meth : Method} {c : Code} {D : va_G} {cy : Nat → ClassId} {r0 : Int64} (E0 : En p m c cX2_product 10 s args wsX2_product RX2 meth (some .long) D cy) (N : Nat) (x0 : Int64) (x2 : Int64) (x4 : Int64) (x6 : Int32) (hP : va_P D vwCl [] s.heap) (k : Int64 → Option (Int64)) (hk : ∀ (x7 : Int64) (ls : Array Slot), lv_has ls 10 [(7, .long x7)] → k x7 = some r0 → GX2_product p l e s m args below meth c r0 (F0 m 55 ls [])) : ∀ (n : Nat), ∀ (x7 : Int64) (x9 : Int32) (ls : Array Slot), lv_has ls 10 [(0, .long x0), (2, .long x2), (4, .long x4), (6, .int x6), (7, .long x7), (9, .int x9)] → fX2_product_L16 N x0 x2 x4 x6 k n x7 x9 = some r0 → GX2_product p l e s m args below meth c r0 (F0 m 16 ls []) := by
  intro n
  induction n with
  | zero => intro x7 x9 ls hl hf; cases hf
  | succ n ih => exact wX2_product_B16 E0 N x0 x2 x4 x6 hP _ ih k hk
set_option maxHeartbeats 4000000 in
set_option maxRecDepth 100000 in
theorem ctX2_product (l : Launch) (D : va_G) (cy : Nat → ClassId) (N : Nat)  (x0 : Int64) (x2 : Int64) (x4 : Int64) (r0 : Int64) (hf : fX2_product N x0 x2 x4 = some r0) : Met l yX2_product wsX2_product rX2_product (va_Pc [.long x0, .long x2, .long x4] (Rd D cy [])) (vp_Sl (fun r => r = r0)) 0 0 (fun _ => False) := by
  refine Met.ofW (cc := cX2_product) (maxL := 10) (ret := (some .long)) (by decide) rfl ?_
  intro p e s m args below meth c s₁ B hml hv
  obtain ⟨rfl, hP, hB⟩ := hv
  have hx := B.exec
  have hb := B.bytes
  have hr := B.returns
  have hts := atoms_spec (ws := wsX2_product) B.pre
  have hown : s.vm.findClass RX2 = some m.cls := findClass_of_methodNamed B.named
  have hlocks := B.notSynchronized
  have hK := hB.1
  have hN := hB.2
  have hl := lv_entry ([.long x0, .long x2, .long x4]) (n := 10) (Nat.le_of_ble_eq_true rfl)
  rw [lg_entry_eq]
  generalize (lg_sl ([.long x0, .long x2, .long x4]) ++ List.replicate (10 - (lg_sl ([.long x0, .long x2, .long x4])).length) Slot.unset).toArray = ls at hl ⊢
  have hl : lv_has ls 10 [(0, .long x0), (2, .long x2), (4, .long x4)] := hl
  have E0 : En p m c cX2_product 10 s ([.long x0, .long x2, .long x4] : List Value).toArray wsX2_product RX2 meth (some .long) D cy := ⟨⟨hx, hb, hml, hown, hts⟩, hr, hlocks, hB⟩
  unfold fX2_product at hf
  refine lv_lload hx hb dX2_product_0 (lv_at hl 2 rfl) ?_
  obtain ⟨r_1, h_2, hf⟩ := bind_some hf
  have hP_r_1 : va_P D vwCl [] s.heap := hP.sub [] rfl
  refine cz_i (va_runS (As := [.long x4]) (rest := []) ⟨hx, hb, hml, hown, hts⟩ (ctX2_degree l D cy N   x4 r_1 h_2) (va_cwS 1 hts gX2_product_X2_degree rfl rfl rfl (by decide +kernel) ⟨Nat.le_of_ble_eq_true rfl, Nat.le_of_ble_eq_true rfl⟩) (preS_rd [.long x4] hP_r_1 hB) rfl rfl hl.1 rfl (lv_room (Nat.le_of_ble_eq_true rfl)) dX2_product_2 ⟨Nat.zero_le _, Nat.zero_le _⟩) ?_
  refine lv_istore (lv' := [(6, .int r_1), (0, .long x0), (2, .long x2), (4, .long x4)]) hx hb dX2_product_5 hl (by decide) rfl (fun ls hl => ?_)
  refine lv_lconst (v := (0 : Int64)) hx hb dX2_product_7 (by decide) ?_
  refine lv_lstore (lv' := [(7, .long (0 : Int64)), (6, .int r_1), (0, .long x0), (2, .long x2), (4, .long x4)]) hx hb dX2_product_8 hl (by decide) rfl (fun ls hl => ?_)
  refine lv_iload hx hb dX2_product_10 (lv_at hl 1 rfl) ?_
  refine lv_iconst (v := (1 : Int32)) hx hb dX2_product_12 (by decide) ?_
  refine lv_isub hx hb dX2_product_13 ?_
  refine lv_istore (lv' := [(9, .int (r_1 - (1 : Int32))), (7, .long (0 : Int64)), (6, .int r_1), (0, .long x0), (2, .long x2), (4, .long x4)]) hx hb dX2_product_14 hl (by decide) rfl (fun ls hl => ?_)
  refine wX2_product_L16 E0 N x0 x2 x4 r_1 hP _ (fun x7_7 ls hl hf => ?_) N _ _ _ (lv_sub hl [3, 4, 5, 2, 1, 0] rfl) hf
  refine lv_lload hx hb dX2_product_55 (lv_at hl 0 rfl) ?_
  exact W.lret (v := x7_7) hx hb hr (fun t ht hW => ⟨_, rfl, Option.some.inj hf, ht⟩) (fun _ h => absurd h List.not_mem_nil) dX2_product_57
/-! SumForms$Polynomials.powerOfX(JJ)J -/
abbrev rX2_powerOfX : Room := { frames := 2, cells := 0, slots := 0, locals := 55 }
abbrev GX2_powerOfX (p : Program) (l : Launch) (e : Env) (s : State) (m : MethodId) (args : Array Value) (below : List Frame) (meth : Method) (c : Code) (r0 : Int64) (fr : JFrame) : Prop := W p l e (headSpec wsX2_powerOfX rX2_powerOfX).room s m args below meth c s.heap [] 0 0 (MQ below (vp_Sl (fun r => r = r0)) args s 0 0 (fun _ => False)) fr
def fX2_powerOfX_B15 (N : Nat) (x0 : Int64) (x2 : Int64) (x4 : Int32) (self : Int64 → Int32 → Option (Int64)) (k : Int64 → Option (Int64)) (x5 : Int64) (x7 : Int32) : Option (Int64) := (if x7 < 0 then (k x5) else ((fX2_product N x5 x5 x2).bind (fun r_6 => (if ((lUsh x0 x7) &&& (1 : Int64)) = (0 : Int64) then (self r_6 (x7 + (-1 : Int32))) else ((fX2_timesX N r_6 x2 x4).bind (fun r_9 => (self r_9 (x7 + (-1 : Int32)))))))))
def fX2_powerOfX_L15 (N : Nat) (x0 : Int64) (x2 : Int64) (x4 : Int32) (k : Int64 → Option (Int64)) : Nat → Int64 → Int32 → Option (Int64)
  | 0 => fun _ _ => none
  | n + 1 => fun x5 x7 => fX2_powerOfX_B15 N x0 x2 x4 (fX2_powerOfX_L15 N x0 x2 x4 k n) k x5 x7
def fX2_powerOfX (N : Nat)  (x0 : Int64) (x2 : Int64) : Option (Int64) := ((fX2_degree N x2).bind (fun r_1 => ((fX2_degree N x0).bind (fun r_3 => (fX2_powerOfX_L15 N x0 x2 r_1 (fun x5_11 => (some x5_11)) N (1 : Int64) r_3)))))
set_option maxHeartbeats 4000000 in
set_option maxRecDepth 100000 in
theorem wX2_powerOfX_B15 {p : Program} {l : Launch} {e : Env} {s : State} {m : MethodId} {args : Array Value} {below : List Frame} {meth : Method} {c : Code} {D : va_G} {cy : Nat → ClassId} {r0 : Int64} (E0 : En p m c cX2_powerOfX 8 s args wsX2_powerOfX RX2 meth (some .long) D cy) (N : Nat) (x0 : Int64) (x2 : Int64) (x4 : Int32) (hP : va_P D vwCl [] s.heap) (self : Int64 → Int32 → Option (Int64)) (hself : ∀ (x5 : Int64) (x7 : Int32) (ls : Array Slot), lv_has ls 8 [(0, .long x0), (2, .long x2), (4, .int x4), (5, .long x5), (7, .int x7)] → self x5 x7 = some r0 → GX2_powerOfX p l e s m args below meth c r0 (F0 m 15 ls [])) (k : Int64 → Option (Int64)) (hk : ∀ (x5 : Int64) (ls : Array Slot), lv_has ls 8 [(5, .long x5)] → k x5 = some r0 → GX2_powerOfX p l e s m args below meth c r0 (F0 m 57 ls [])) : ∀ (x5 : Int64) (x7 : Int32) (ls : Array Slot), lv_has ls 8 [(0, .long x0), (2, .long x2), (4, .int x4), (5, .long x5), (7, .int x7)] → fX2_powerOfX_B15 N x0 x2 x4 self k x5 x7 = some r0 → GX2_powerOfX p l e s m args below meth c r0 (F0 m 15 ls []) := by
  obtain ⟨⟨hx, hb, hml, hown, hts⟩, hr, hlocks, hB⟩ := id E0
  have hK := hB.1
  have hN := hB.2
  intro x5 x7 ls hl hf
  unfold fX2_powerOfX_B15 at hf
  refine lv_iload hx hb dX2_powerOfX_15 (lv_at hl 4 rfl) ?_
  refine lv_if_lt (tgt := 57) hx hb dX2_powerOfX_17 (by decide) (fun c_5 => ?_) (fun c_5 => ?_)
  · have hf := ite_t hf c_5
    exact hk _ _ (lv_sub hl [3] rfl) hf
  · have hf := ite_f hf c_5
    refine lv_lload hx hb dX2_powerOfX_20 (lv_at hl 3 rfl) ?_
    refine lv_lload hx hb dX2_powerOfX_22 (lv_at hl 3 rfl) ?_
    refine lv_lload_n hx hb dX2_powerOfX_24 rfl (lv_at hl 1 rfl) ?_
    obtain ⟨r_6, h_7, hf⟩ := bind_some hf
    have hP_r_6 : va_P D vwCl [] s.heap := hP.sub [] rfl
    refine cz_l (va_runS (As := [.long x5, .long x5, .long x2]) (rest := []) ⟨hx, hb, hml, hown, hts⟩ (ctX2_product l D cy N   x5 x5 x2 r_6 h_7) (va_cwS 3 hts gX2_powerOfX_X2_product rfl rfl rfl (by decide +kernel) ⟨Nat.le_of_ble_eq_true rfl, Nat.le_of_ble_eq_true rfl⟩) (preS_rd [.long x5, .long x5, .long x2] hP_r_6 hB) rfl rfl hl.1 rfl (lv_room (Nat.le_of_ble_eq_true rfl)) dX2_powerOfX_25 ⟨Nat.zero_le _, Nat.zero_le _⟩) ?_
    refine lv_lstore (lv' := [(5, .long r_6), (0, .long x0), (2, .long x2), (4, .int x4), (7, .int x7)]) hx hb dX2_powerOfX_28 hl (by decide) rfl (fun ls hl => ?_)
    refine lv_lload_n hx hb dX2_powerOfX_30 rfl (lv_at hl 1 rfl) ?_
    refine lv_iload hx hb dX2_powerOfX_31 (lv_at hl 4 rfl) ?_
    refine zz_lushr hx hb dX2_powerOfX_33 ?_
    refine lv_lconst (v := (1 : Int64)) hx hb dX2_powerOfX_34 (by decide) ?_
    refine lv_land hx hb dX2_powerOfX_35 ?_
    refine lv_lconst (v := (0 : Int64)) hx hb dX2_powerOfX_36 (by decide) ?_
    refine zz_lc_eq (tgt := 51) hx hb dX2_powerOfX_37 dX2_powerOfX_38 (by decide) (fun c_8 => ?_) (fun c_8 => ?_)
    · have hf := ite_t hf c_8
      refine lv_iinc (v := (x7 + (-1 : Int32))) (lv' := [(7, .int (x7 + (-1 : Int32))), (5, .long r_6), (0, .long x0), (2, .long x2), (4, .int x4)]) hx hb dX2_powerOfX_51 hl (k := 4) rfl rfl (by decide) rfl (fun ls hl => ?_)
      refine lv_goto (tgt := 15) hx hb dX2_powerOfX_54 (by decide) ?_
      exact hself _ _ _ (lv_sub hl [2, 3, 4, 1, 0] rfl) hf
    · have hf := ite_f hf c_8
      refine lv_lload hx hb dX2_powerOfX_41 (lv_at hl 0 rfl) ?_
      refine lv_lload_n hx hb dX2_powerOfX_43 rfl (lv_at hl 2 rfl) ?_
      refine lv_iload hx hb dX2_powerOfX_44 (lv_at hl 3 rfl) ?_
      obtain ⟨r_9, h_10, hf⟩ := bind_some hf
      have hP_r_9 : va_P D vwCl [] s.heap := hP.sub [] rfl
      refine cz_l (va_runS (As := [.long r_6, .long x2, .int x4]) (rest := []) ⟨hx, hb, hml, hown, hts⟩ (ctX2_timesX l D cy N   r_6 x2 x4 r_9 h_10) (va_cwS 3 hts gX2_powerOfX_X2_timesX rfl rfl rfl (by decide +kernel) ⟨Nat.le_of_ble_eq_true rfl, Nat.le_of_ble_eq_true rfl⟩) (preS_rd [.long r_6, .long x2, .int x4] hP_r_9 hB) rfl rfl hl.1 rfl (lv_room (Nat.le_of_ble_eq_true rfl)) dX2_powerOfX_46 ⟨Nat.zero_le _, Nat.zero_le _⟩) ?_
      refine lv_lstore (lv' := [(5, .long r_9), (0, .long x0), (2, .long x2), (4, .int x4), (7, .int x7)]) hx hb dX2_powerOfX_49 hl (by decide) rfl (fun ls hl => ?_)
      refine lv_iinc (v := (x7 + (-1 : Int32))) (lv' := [(7, .int (x7 + (-1 : Int32))), (5, .long r_9), (0, .long x0), (2, .long x2), (4, .int x4)]) hx hb dX2_powerOfX_51 hl (k := 4) rfl rfl (by decide) rfl (fun ls hl => ?_)
      refine lv_goto (tgt := 15) hx hb dX2_powerOfX_54 (by decide) ?_
      exact hself _ _ _ (lv_sub hl [2, 3, 4, 1, 0] rfl) hf
theorem wX2_powerOfX_L15 {p : Program} {l : Launch} {e : Env} {s : State} {m : MethodId} {args : Array Value} {below : List Frame} {meth : Method} {c : Code} {D : va_G} {cy : Nat → ClassId} {r0 : Int64} (E0 : En p m c cX2_powerOfX 8 s args wsX2_powerOfX RX2 meth (some .long) D cy) (N : Nat) (x0 : Int64) (x2 : Int64) (x4 : Int32) (hP : va_P D vwCl [] s.heap) (k : Int64 → Option (Int64)) (hk : ∀ (x5 : Int64) (ls : Array Slot), lv_has ls 8 [(5, .long x5)] → k x5 = some r0 → GX2_powerOfX p l e s m args below meth c r0 (F0 m 57 ls [])) : ∀ (n : Nat), ∀ (x5 : Int64) (x7 : Int32) (ls : Array Slot), lv_has ls 8 [(0, .long x0), (2, .long x2), (4, .int x4), (5, .long x5), (7, .int x7)] → fX2_powerOfX_L15 N x0 x2 x4 k n x5 x7 = some r0 → GX2_powerOfX p l e s m args below meth c r0 (F0 m 15 ls []) := by
  intro n
  induction n with
  | zero => intro x5 x7 ls hl hf; cases hf
  | succ n ih => exact wX2_powerOfX_B15 E0 N x0 x2 x4 hP _ ih k hk
set_option maxHeartbeats 4000000 in
set_option maxRecDepth 100000 in
theorem ctX2_powerOfX (l : Launch) (D : va_G) (cy : Nat → ClassId) (N : Nat)  (x0 : Int64) (x2 : Int64) (r0 : Int64) (hf : fX2_powerOfX N x0 x2 = some r0) : Met l yX2_powerOfX wsX2_powerOfX rX2_powerOfX (va_Pc [.long x0, .long x2] (Rd D cy [])) (vp_Sl (fun r => r = r0)) 0 0 (fun _ => False) := by
  refine Met.ofW (cc := cX2_powerOfX) (maxL := 8) (ret := (some .long)) (by decide) rfl ?_
  intro p e s m args below meth c s₁ B hml hv
  obtain ⟨rfl, hP, hB⟩ := hv
  have hx := B.exec
  have hb := B.bytes
  have hr := B.returns
  have hts := atoms_spec (ws := wsX2_powerOfX) B.pre
  have hown : s.vm.findClass RX2 = some m.cls := findClass_of_methodNamed B.named
  have hlocks := B.notSynchronized
  have hK := hB.1
  have hN := hB.2
  have hl := lv_entry ([.long x0, .long x2]) (n := 8) (Nat.le_of_ble_eq_true rfl)
  rw [lg_entry_eq]
  generalize (lg_sl ([.long x0, .long x2]) ++ List.replicate (8 - (lg_sl ([.long x0, .long x2])).length) Slot.unset).toArray = ls at hl ⊢
  have hl : lv_has ls 8 [(0, .long x0), (2, .long x2)] := hl
  have E0 : En p m c cX2_powerOfX 8 s ([.long x0, .long x2] : List Value).toArray wsX2_powerOfX RX2 meth (some .long) D cy := ⟨⟨hx, hb, hml, hown, hts⟩, hr, hlocks, hB⟩
  unfold fX2_powerOfX at hf
  refine lv_lload_n hx hb dX2_powerOfX_0 rfl (lv_at hl 1 rfl) ?_
  obtain ⟨r_1, h_2, hf⟩ := bind_some hf
  have hP_r_1 : va_P D vwCl [] s.heap := hP.sub [] rfl
  refine cz_i (va_runS (As := [.long x2]) (rest := []) ⟨hx, hb, hml, hown, hts⟩ (ctX2_degree l D cy N   x2 r_1 h_2) (va_cwS 1 hts gX2_powerOfX_X2_degree rfl rfl rfl (by decide +kernel) ⟨Nat.le_of_ble_eq_true rfl, Nat.le_of_ble_eq_true rfl⟩) (preS_rd [.long x2] hP_r_1 hB) rfl rfl hl.1 rfl (lv_room (Nat.le_of_ble_eq_true rfl)) dX2_powerOfX_1 ⟨Nat.zero_le _, Nat.zero_le _⟩) ?_
  refine lv_istore (lv' := [(4, .int r_1), (0, .long x0), (2, .long x2)]) hx hb dX2_powerOfX_4 hl (by decide) rfl (fun ls hl => ?_)
  refine lv_lconst (v := (1 : Int64)) hx hb dX2_powerOfX_6 (by decide) ?_
  refine lv_lstore (lv' := [(5, .long (1 : Int64)), (4, .int r_1), (0, .long x0), (2, .long x2)]) hx hb dX2_powerOfX_7 hl (by decide) rfl (fun ls hl => ?_)
  refine lv_lload_n hx hb dX2_powerOfX_9 rfl (lv_at hl 2 rfl) ?_
  obtain ⟨r_3, h_4, hf⟩ := bind_some hf
  have hP_r_3 : va_P D vwCl [] s.heap := hP.sub [] rfl
  refine cz_i (va_runS (As := [.long x0]) (rest := []) ⟨hx, hb, hml, hown, hts⟩ (ctX2_degree l D cy N   x0 r_3 h_4) (va_cwS 1 hts gX2_powerOfX_X2_degree rfl rfl rfl (by decide +kernel) ⟨Nat.le_of_ble_eq_true rfl, Nat.le_of_ble_eq_true rfl⟩) (preS_rd [.long x0] hP_r_3 hB) rfl rfl hl.1 rfl (lv_room (Nat.le_of_ble_eq_true rfl)) dX2_powerOfX_10 ⟨Nat.zero_le _, Nat.zero_le _⟩) ?_
  refine lv_istore (lv' := [(7, .int r_3), (5, .long (1 : Int64)), (4, .int r_1), (0, .long x0), (2, .long x2)]) hx hb dX2_powerOfX_13 hl (by decide) rfl (fun ls hl => ?_)
  refine wX2_powerOfX_L15 E0 N x0 x2 r_1 hP _ (fun x5_11 ls hl hf => ?_) N _ _ _ (lv_sub hl [3, 4, 2, 1, 0] rfl) hf
  refine lv_lload hx hb dX2_powerOfX_57 (lv_at hl 0 rfl) ?_
  exact W.lret (v := x5_11) hx hb hr (fun t ht hW => ⟨_, rfl, Option.some.inj hf, ht⟩) (fun _ h => absurd h List.not_mem_nil) dX2_powerOfX_59
/-! SumForms$Polynomials.quotient(JJ)J -/
abbrev rX2_quotient : Room := { frames := 1, cells := 0, slots := 0, locals := 23 }
abbrev GX2_quotient (p : Program) (l : Launch) (e : Env) (s : State) (m : MethodId) (args : Array Value) (below : List Frame) (meth : Method) (c : Code) (r0 : Int64) (fr : JFrame) : Prop := W p l e (headSpec wsX2_quotient rX2_quotient).room s m args below meth c s.heap [] 0 0 (MQ below (vp_Sl (fun r => r = r0)) args s 0 0 (fun _ => False)) fr
def fX2_quotient_B25 (N : Nat) (x2 : Int64) (x4 : Int32) (self : Int64 → Int64 → Int32 → Option (Int64)) (k : Int64 → Option (Int64)) (x5 : Int64) (x7 : Int64) (x9 : Int32) : Option (Int64) := (if x9 < x4 then (k x7) else (if ((lUsh x5 x9) &&& (1 : Int64)) = (0 : Int64) then (self x5 x7 (x9 + (-1 : Int32))) else (self (x5 ^^^ (lShl x2 (x9 - x4))) (x7 ||| (lShl (1 : Int64) (x9 - x4))) (x9 + (-1 : Int32)))))
def fX2_quotient_L25 (N : Nat) (x2 : Int64) (x4 : Int32) (k : Int64 → Option (Int64)) : Nat → Int64 → Int64 → Int32 → Option (Int64)
  | 0 => fun _ _ _ => none
  | n + 1 => fun x5 x7 x9 => fX2_quotient_B25 N x2 x4 (fX2_quotient_L25 N x2 x4 k n) k x5 x7 x9
def fX2_quotient (N : Nat)  (x0 : Int64) (x2 : Int64) : Option (Int64) := ((fX2_degree N x2).bind (fun r_1 => (if 0 ≤ r_1 then ((fX2_degree N x0).bind (fun r_4 => (fX2_quotient_L25 N x2 r_1 (fun x7_8 => (some x7_8)) N x0 (0 : Int64) r_4))) else (some (0 : Int64)))))
set_option maxHeartbeats 4000000 in
set_option maxRecDepth 100000 in
theorem wX2_quotient_B25 {p : Program} {l : Launch} {e : Env} {s : State} {m : MethodId} {args : Array Value} {below : List Frame} {meth : Method} {c : Code} {D : va_G} {cy : Nat → ClassId} {r0 : Int64} (E0 : En p m c cX2_quotient 10 s args wsX2_quotient RX2 meth (some .long) D cy) (N : Nat) (x2 : Int64) (x4 : Int32) (hP : va_P D vwCl [] s.heap) (self : Int64 → Int64 → Int32 → Option (Int64)) (hself : ∀ (x5 : Int64) (x7 : Int64) (x9 : Int32) (ls : Array Slot), lv_has ls 10 [(2, .long x2), (4, .int x4), (5, .long x5), (7, .long x7), (9, .int x9)] → self x5 x7 x9 = some r0 → GX2_quotient p l e s m args below meth c r0 (F0 m 25 ls [])) (k : Int64 → Option (Int64)) (hk : ∀ (x7 : Int64) (ls : Array Slot), lv_has ls 10 [(7, .long x7)] → k x7 = some r0 → GX2_quotient p l e s m args below meth c r0 (F0 m 74 ls [])) : ∀ (x5 : Int64) (x7 : Int64) (x9 : Int32) (ls : Array Slot), lv_has ls 10 [(2, .long x2), (4, .int x4), (5, .long x5), (7, .long x7), (9, .int x9)] → fX2_quotient_B25 N x2 x4 self k x5 x7 x9 = some r0 → GX2_quotient p l e s m args below meth c r0 (F0 m 25 ls []) := by
  obtain ⟨⟨hx, hb, hml, hown, hts⟩, hr, hlocks, hB⟩ := id E0
  have hK := hB.1
  have hN := hB.2
  intro x5 x7 x9 ls hl hf
  unfold fX2_quotient_B25 at hf
  refine lv_iload hx hb dX2_quotient_25 (lv_at hl 4 rfl) ?_
  refine lv_iload hx hb dX2_quotient_27 (lv_at hl 1 rfl) ?_
  refine lv_icmp_lt (tgt := 74) hx hb dX2_quotient_29 (by decide) (fun c_6 => ?_) (fun c_6 => ?_)
  · have hf := ite_t hf c_6
    exact hk _ _ (lv_sub hl [3] rfl) hf
  · have hf := ite_f hf c_6
    refine lv_lload hx hb dX2_quotient_32 (lv_at hl 2 rfl) ?_
    refine lv_iload hx hb dX2_quotient_34 (lv_at hl 4 rfl) ?_
    refine zz_lushr hx hb dX2_quotient_36 ?_
    refine lv_lconst (v := (1 : Int64)) hx hb dX2_quotient_37 (by decide) ?_
    refine lv_land hx hb dX2_quotient_38 ?_
    refine lv_lconst (v := (0 : Int64)) hx hb dX2_quotient_39 (by decide) ?_
    refine zz_lc_eq (tgt := 68) hx hb dX2_quotient_40 dX2_quotient_41 (by decide) (fun c_7 => ?_) (fun c_7 => ?_)
    · have hf := ite_t hf c_7
      refine lv_iinc (v := (x9 + (-1 : Int32))) (lv' := [(9, .int (x9 + (-1 : Int32))), (2, .long x2), (4, .int x4), (5, .long x5), (7, .long x7)]) hx hb dX2_quotient_68 hl (k := 4) rfl rfl (by decide) rfl (fun ls hl => ?_)
      refine lv_goto (tgt := 25) hx hb dX2_quotient_71 (by decide) ?_
      exact hself _ _ _ _ (lv_sub hl [1, 2, 3, 4, 0] rfl) hf
    · have hf := ite_f hf c_7
      refine lv_lload hx hb dX2_quotient_44 (lv_at hl 2 rfl) ?_
      refine lv_lload_n hx hb dX2_quotient_46 rfl (lv_at hl 0 rfl) ?_
      refine lv_iload hx hb dX2_quotient_47 (lv_at hl 4 rfl) ?_
      refine lv_iload hx hb dX2_quotient_49 (lv_at hl 1 rfl) ?_
      refine lv_isub hx hb dX2_quotient_51 ?_
      refine zz_lshl hx hb dX2_quotient_52 ?_
      refine lv_lxor hx hb dX2_quotient_53 ?_
      refine lv_lstore (lv' := [(5, .long (x5 ^^^ (lShl x2 (x9 - x4)))), (2, .long x2), (4, .int x4), (7, .long x7), (9, .int x9)]) hx hb dX2_quotient_54 hl (by decide) rfl (fun ls hl => ?_)
      refine lv_lload hx hb dX2_quotient_56 (lv_at hl 3 rfl) ?_
      refine lv_lconst (v := (1 : Int64)) hx hb dX2_quotient_58 (by decide) ?_
      refine lv_iload hx hb dX2_quotient_59 (lv_at hl 4 rfl) ?_
      refine lv_iload hx hb dX2_quotient_61 (lv_at hl 2 rfl) ?_
      refine lv_isub hx hb dX2_quotient_63 ?_
      refine zz_lshl hx hb dX2_quotient_64 ?_
      refine lv_lor hx hb dX2_quotient_65 ?_
      refine lv_lstore (lv' := [(7, .long (x7 ||| (lShl (1 : Int64) (x9 - x4)))), (5, .long (x5 ^^^ (lShl x2 (x9 - x4)))), (2, .long x2), (4, .int x4), (9, .int x9)]) hx hb dX2_quotient_66 hl (by decide) rfl (fun ls hl => ?_)
      refine lv_iinc (v := (x9 + (-1 : Int32))) (lv' := [(9, .int (x9 + (-1 : Int32))), (7, .long (x7 ||| (lShl (1 : Int64) (x9 - x4)))), (5, .long (x5 ^^^ (lShl x2 (x9 - x4)))), (2, .long x2), (4, .int x4)]) hx hb dX2_quotient_68 hl (k := 4) rfl rfl (by decide) rfl (fun ls hl => ?_)
      refine lv_goto (tgt := 25) hx hb dX2_quotient_71 (by decide) ?_
      exact hself _ _ _ _ (lv_sub hl [3, 4, 2, 1, 0] rfl) hf
theorem wX2_quotient_L25 {p : Program} {l : Launch} {e : Env} {s : State} {m : MethodId} {args : Array Value} {below : List Frame} {meth : Method} {c : Code} {D : va_G} {cy : Nat → ClassId} {r0 : Int64} (E0 : En p m c cX2_quotient 10 s args wsX2_quotient RX2 meth (some .long) D cy) (N : Nat) (x2 : Int64) (x4 : Int32) (hP : va_P D vwCl [] s.heap) (k : Int64 → Option (Int64)) (hk : ∀ (x7 : Int64) (ls : Array Slot), lv_has ls 10 [(7, .long x7)] → k x7 = some r0 → GX2_quotient p l e s m args below meth c r0 (F0 m 74 ls [])) : ∀ (n : Nat), ∀ (x5 : Int64) (x7 : Int64) (x9 : Int32) (ls : Array Slot), lv_has ls 10 [(2, .long x2), (4, .int x4), (5, .long x5), (7, .long x7), (9, .int x9)] → fX2_quotient_L25 N x2 x4 k n x5 x7 x9 = some r0 → GX2_quotient p l e s m args below meth c r0 (F0 m 25 ls []) := by
  intro n
  induction n with
  | zero => intro x5 x7 x9 ls hl hf; cases hf
  | succ n ih => exact wX2_quotient_B25 E0 N x2 x4 hP _ ih k hk
set_option maxHeartbeats 4000000 in
set_option maxRecDepth 100000 in
theorem ctX2_quotient (l : Launch) (D : va_G) (cy : Nat → ClassId) (N : Nat)  (x0 : Int64) (x2 : Int64) (r0 : Int64) (hf : fX2_quotient N x0 x2 = some r0) : Met l yX2_quotient wsX2_quotient rX2_quotient (va_Pc [.long x0, .long x2] (Rd D cy [])) (vp_Sl (fun r => r = r0)) 0 0 (fun _ => False) := by
  refine Met.ofW (cc := cX2_quotient) (maxL := 10) (ret := (some .long)) (by decide) rfl ?_
  intro p e s m args below meth c s₁ B hml hv
  obtain ⟨rfl, hP, hB⟩ := hv
  have hx := B.exec
  have hb := B.bytes
  have hr := B.returns
  have hts := atoms_spec (ws := wsX2_quotient) B.pre
  have hown : s.vm.findClass RX2 = some m.cls := findClass_of_methodNamed B.named
  have hlocks := B.notSynchronized
  have hK := hB.1
  have hN := hB.2
  have hl := lv_entry ([.long x0, .long x2]) (n := 10) (Nat.le_of_ble_eq_true rfl)
  rw [lg_entry_eq]
  generalize (lg_sl ([.long x0, .long x2]) ++ List.replicate (10 - (lg_sl ([.long x0, .long x2])).length) Slot.unset).toArray = ls at hl ⊢
  have hl : lv_has ls 10 [(0, .long x0), (2, .long x2)] := hl
  have E0 : En p m c cX2_quotient 10 s ([.long x0, .long x2] : List Value).toArray wsX2_quotient RX2 meth (some .long) D cy := ⟨⟨hx, hb, hml, hown, hts⟩, hr, hlocks, hB⟩
  unfold fX2_quotient at hf
  refine lv_lload_n hx hb dX2_quotient_0 rfl (lv_at hl 1 rfl) ?_
  obtain ⟨r_1, h_2, hf⟩ := bind_some hf
  have hP_r_1 : va_P D vwCl [] s.heap := hP.sub [] rfl
  refine cz_i (va_runS (As := [.long x2]) (rest := []) ⟨hx, hb, hml, hown, hts⟩ (ctX2_degree l D cy N   x2 r_1 h_2) (va_cwS 1 hts gX2_quotient_X2_degree rfl rfl rfl (by decide +kernel) ⟨Nat.le_of_ble_eq_true rfl, Nat.le_of_ble_eq_true rfl⟩) (preS_rd [.long x2] hP_r_1 hB) rfl rfl hl.1 rfl (lv_room (Nat.le_of_ble_eq_true rfl)) dX2_quotient_1 ⟨Nat.zero_le _, Nat.zero_le _⟩) ?_
  refine lv_istore (lv' := [(4, .int r_1), (0, .long x0), (2, .long x2)]) hx hb dX2_quotient_4 hl (by decide) rfl (fun ls hl => ?_)
  refine lv_iload hx hb dX2_quotient_6 (lv_at hl 0 rfl) ?_
  refine lv_if_ge (tgt := 13) hx hb dX2_quotient_8 (by decide) (fun c_3 => ?_) (fun c_3 => ?_)
  · have hf := ite_t hf c_3
    refine lv_lload_n hx hb dX2_quotient_13 rfl (lv_at hl 1 rfl) ?_
    refine lv_lstore (lv' := [(5, .long x0), (4, .int r_1), (0, .long x0), (2, .long x2)]) hx hb dX2_quotient_14 hl (by decide) rfl (fun ls hl => ?_)
    refine lv_lconst (v := (0 : Int64)) hx hb dX2_quotient_16 (by decide) ?_
    refine lv_lstore (lv' := [(7, .long (0 : Int64)), (5, .long x0), (4, .int r_1), (0, .long x0), (2, .long x2)]) hx hb dX2_quotient_17 hl (by decide) rfl (fun ls hl => ?_)
    refine lv_lload_n hx hb dX2_quotient_19 rfl (lv_at hl 3 rfl) ?_
    obtain ⟨r_4, h_5, hf⟩ := bind_some hf
    have hP_r_4 : va_P D vwCl [] s.heap := hP.sub [] rfl
    refine cz_i (va_runS (As := [.long x0]) (rest := []) ⟨hx, hb, hml, hown, hts⟩ (ctX2_degree l D cy N   x0 r_4 h_5) (va_cwS 1 hts gX2_quotient_X2_degree rfl rfl rfl (by decide +kernel) ⟨Nat.le_of_ble_eq_true rfl, Nat.le_of_ble_eq_true rfl⟩) (preS_rd [.long x0] hP_r_4 hB) rfl rfl hl.1 rfl (lv_room (Nat.le_of_ble_eq_true rfl)) dX2_quotient_20 ⟨Nat.zero_le _, Nat.zero_le _⟩) ?_
    refine lv_istore (lv' := [(9, .int r_4), (7, .long (0 : Int64)), (5, .long x0), (4, .int r_1), (0, .long x0), (2, .long x2)]) hx hb dX2_quotient_23 hl (by decide) rfl (fun ls hl => ?_)
    refine wX2_quotient_L25 E0 N x2 r_1 hP _ (fun x7_8 ls hl hf => ?_) N _ _ _ _ (lv_sub hl [5, 3, 2, 1, 0] rfl) hf
    refine lv_lload hx hb dX2_quotient_74 (lv_at hl 0 rfl) ?_
    exact W.lret (v := x7_8) hx hb hr (fun t ht hW => ⟨_, rfl, Option.some.inj hf, ht⟩) (fun _ h => absurd h List.not_mem_nil) dX2_quotient_76
  · have hf := ite_f hf c_3
    refine lv_lconst (v := (0 : Int64)) hx hb dX2_quotient_11 (by decide) ?_
    exact W.lret (v := (0 : Int64)) hx hb hr (fun t ht hW => ⟨_, rfl, Option.some.inj hf, ht⟩) (fun _ h => absurd h List.not_mem_nil) dX2_quotient_12
/-! SumForms$Polynomials.trace(JIJ)J -/
abbrev rX2_trace : Room := { frames := 2, cells := 0, slots := 0, locals := 55 }
abbrev GX2_trace (p : Program) (l : Launch) (e : Env) (s : State) (m : MethodId) (args : Array Value) (below : List Frame) (meth : Method) (c : Code) (r0 : Int64) (fr : JFrame) : Prop := W p l e (headSpec wsX2_trace rX2_trace).room s m args below meth c s.heap [] 0 0 (MQ below (vp_Sl (fun r => r = r0)) args s 0 0 (fun _ => False)) fr
def fX2_trace_B9 (N : Nat) (x2 : Int32) (x3 : Int64) (self : Int64 → Int64 → Int32 → Option (Int64)) (k : Int64 → Option (Int64)) (x5 : Int64) (x7 : Int64) (x9 : Int32) : Option (Int64) := (if x2 ≤ x9 then (k x7) else ((fX2_product N x5 x5 x3).bind (fun r_2 => (self r_2 (x7 ^^^ r_2) (x9 + (1 : Int32))))))
def fX2_trace_L9 (N : Nat) (x2 : Int32) (x3 : Int64) (k : Int64 → Option (Int64)) : Nat → Int64 → Int64 → Int32 → Option (Int64)
  | 0 => fun _ _ _ => none
  | n + 1 => fun x5 x7 x9 => fX2_trace_B9 N x2 x3 (fX2_trace_L9 N x2 x3 k n) k x5 x7 x9
def fX2_trace (N : Nat)  (x0 : Int64) (x2 : Int32) (x3 : Int64) : Option (Int64) := (fX2_trace_L9 N x2 x3 (fun x7_4 => (some x7_4)) N x0 x0 (1 : Int32))
set_option maxHeartbeats 4000000 in
set_option maxRecDepth 100000 in
theorem wX2_trace_B9 {p : Program} {l : Launch} {e : Env} {s : State} {m : MethodId} {args : Array Value} {below : List Frame} {meth : Method} {c : Code} {D : va_G} {cy : Nat → ClassId} {r0 : Int64} (E0 : En p m c cX2_trace 10 s args wsX2_trace RX2 meth (some .long) D cy) (N : Nat) (x2 : Int32) (x3 : Int64) (hP : va_P D vwCl [] s.heap) (self : Int64 → Int64 → Int32 → Option (Int64)) (hself : ∀ (x5 : Int64) (x7 : Int64) (x9 : Int32) (ls : Array Slot), lv_has ls 10 [(2, .int x2), (3, .long x3), (5, .long x5), (7, .long x7), (9, .int x9)] → self x5 x7 x9 = some r0 → GX2_trace p l e s m args below meth c r0 (F0 m 9 ls [])) (k : Int64 → Option (Int64)) (hk : ∀ (x7 : Int64) (ls : Array Slot), lv_has ls 10 [(7, .long x7)] → k x7 = some r0 → GX2_trace p l e s m args below meth c r0 (F0 m 38 ls [])) : ∀ (x5 : Int64) (x7 : Int64) (x9 : Int32) (ls : Array Slot), lv_has ls 10 [(2, .int x2), (3, .long x3), (5, .long x5), (7, .long x7), (9, .int x9)] → fX2_trace_B9 N x2 x3 self k x5 x7 x9 = some r0 → GX2_trace p l e s m args below meth c r0 (F0 m 9 ls []) := by
  obtain ⟨⟨hx, hb, hml, hown, hts⟩, hr, hlocks, hB⟩ := id E0
  have hK := hB.1
  have hN := hB.2
  intro x5 x7 x9 ls hl hf
  unfold fX2_trace_B9 at hf
  refine lv_iload hx hb dX2_trace_9 (lv_at hl 4 rfl) ?_
  refine lv_iload_n hx hb dX2_trace_11 rfl (lv_at hl 0 rfl) ?_
  refine lv_icmp_ge (tgt := 38) hx hb dX2_trace_12 (by decide) (fun c_1 => ?_) (fun c_1 => ?_)
  · have hf := ite_t hf c_1
    exact hk _ _ (lv_sub hl [3] rfl) hf
  · have hf := ite_f hf c_1
    refine lv_lload hx hb dX2_trace_15 (lv_at hl 2 rfl) ?_
    refine lv_lload hx hb dX2_trace_17 (lv_at hl 2 rfl) ?_
    refine lv_lload_n hx hb dX2_trace_19 rfl (lv_at hl 1 rfl) ?_
    obtain ⟨r_2, h_3, hf⟩ := bind_some hf
    have hP_r_2 : va_P D vwCl [] s.heap := hP.sub [] rfl
    refine cz_l (va_runS (As := [.long x5, .long x5, .long x3]) (rest := []) ⟨hx, hb, hml, hown, hts⟩ (ctX2_product l D cy N   x5 x5 x3 r_2 h_3) (va_cwS 3 hts gX2_trace_X2_product rfl rfl rfl (by decide +kernel) ⟨Nat.le_of_ble_eq_true rfl, Nat.le_of_ble_eq_true rfl⟩) (preS_rd [.long x5, .long x5, .long x3] hP_r_2 hB) rfl rfl hl.1 rfl (lv_room (Nat.le_of_ble_eq_true rfl)) dX2_trace_20 ⟨Nat.zero_le _, Nat.zero_le _⟩) ?_
    refine lv_lstore (lv' := [(5, .long r_2), (2, .int x2), (3, .long x3), (7, .long x7), (9, .int x9)]) hx hb dX2_trace_23 hl (by decide) rfl (fun ls hl => ?_)
    refine lv_lload hx hb dX2_trace_25 (lv_at hl 3 rfl) ?_
    refine lv_lload hx hb dX2_trace_27 (lv_at hl 0 rfl) ?_
    refine lv_lxor hx hb dX2_trace_29 ?_
    refine lv_lstore (lv' := [(7, .long (x7 ^^^ r_2)), (5, .long r_2), (2, .int x2), (3, .long x3), (9, .int x9)]) hx hb dX2_trace_30 hl (by decide) rfl (fun ls hl => ?_)
    refine lv_iinc (v := (x9 + (1 : Int32))) (lv' := [(9, .int (x9 + (1 : Int32))), (7, .long (x7 ^^^ r_2)), (5, .long r_2), (2, .int x2), (3, .long x3)]) hx hb dX2_trace_32 hl (k := 4) rfl rfl (by decide) rfl (fun ls hl => ?_)
    refine lv_goto (tgt := 9) hx hb dX2_trace_35 (by decide) ?_
    exact hself _ _ _ _ (lv_sub hl [3, 4, 2, 1, 0] rfl) hf
theorem wX2_trace_L9 {p : Program} {l : Launch} {e : Env} {s : State} {m : MethodId} {args : Array Value} {below : List Frame} {meth : Method} {c : Code} {D : va_G} {cy : Nat → ClassId} {r0 : Int64} (E0 : En p m c cX2_trace 10 s args wsX2_trace RX2 meth (some .long) D cy) (N : Nat) (x2 : Int32) (x3 : Int64) (hP : va_P D vwCl [] s.heap) (k : Int64 → Option (Int64)) (hk : ∀ (x7 : Int64) (ls : Array Slot), lv_has ls 10 [(7, .long x7)] → k x7 = some r0 → GX2_trace p l e s m args below meth c r0 (F0 m 38 ls [])) : ∀ (n : Nat), ∀ (x5 : Int64) (x7 : Int64) (x9 : Int32) (ls : Array Slot), lv_has ls 10 [(2, .int x2), (3, .long x3), (5, .long x5), (7, .long x7), (9, .int x9)] → fX2_trace_L9 N x2 x3 k n x5 x7 x9 = some r0 → GX2_trace p l e s m args below meth c r0 (F0 m 9 ls []) := by
  intro n
  induction n with
  | zero => intro x5 x7 x9 ls hl hf; cases hf
  | succ n ih => exact wX2_trace_B9 E0 N x2 x3 hP _ ih k hk
set_option maxHeartbeats 4000000 in
set_option maxRecDepth 100000 in
theorem ctX2_trace (l : Launch) (D : va_G) (cy : Nat → ClassId) (N : Nat)  (x0 : Int64) (x2 : Int32) (x3 : Int64) (r0 : Int64) (hf : fX2_trace N x0 x2 x3 = some r0) : Met l yX2_trace wsX2_trace rX2_trace (va_Pc [.long x0, .int x2, .long x3] (Rd D cy [])) (vp_Sl (fun r => r = r0)) 0 0 (fun _ => False) := by
  refine Met.ofW (cc := cX2_trace) (maxL := 10) (ret := (some .long)) (by decide) rfl ?_
  intro p e s m args below meth c s₁ B hml hv
  obtain ⟨rfl, hP, hB⟩ := hv
  have hx := B.exec
  have hb := B.bytes
  have hr := B.returns
  have hts := atoms_spec (ws := wsX2_trace) B.pre
  have hown : s.vm.findClass RX2 = some m.cls := findClass_of_methodNamed B.named
  have hlocks := B.notSynchronized
  have hK := hB.1
  have hN := hB.2
  have hl := lv_entry ([.long x0, .int x2, .long x3]) (n := 10) (Nat.le_of_ble_eq_true rfl)
  rw [lg_entry_eq]
  generalize (lg_sl ([.long x0, .int x2, .long x3]) ++ List.replicate (10 - (lg_sl ([.long x0, .int x2, .long x3])).length) Slot.unset).toArray = ls at hl ⊢
  have hl : lv_has ls 10 [(0, .long x0), (2, .int x2), (3, .long x3)] := hl
  have E0 : En p m c cX2_trace 10 s ([.long x0, .int x2, .long x3] : List Value).toArray wsX2_trace RX2 meth (some .long) D cy := ⟨⟨hx, hb, hml, hown, hts⟩, hr, hlocks, hB⟩
  unfold fX2_trace at hf
  refine lv_lload_n hx hb dX2_trace_0 rfl (lv_at hl 0 rfl) ?_
  refine lv_lstore (lv' := [(5, .long x0), (0, .long x0), (2, .int x2), (3, .long x3)]) hx hb dX2_trace_1 hl (by decide) rfl (fun ls hl => ?_)
  refine lv_lload_n hx hb dX2_trace_3 rfl (lv_at hl 1 rfl) ?_
  refine lv_lstore (lv' := [(7, .long x0), (5, .long x0), (0, .long x0), (2, .int x2), (3, .long x3)]) hx hb dX2_trace_4 hl (by decide) rfl (fun ls hl => ?_)
  refine lv_iconst (v := (1 : Int32)) hx hb dX2_trace_6 (by decide) ?_
  refine lv_istore (lv' := [(9, .int (1 : Int32)), (7, .long x0), (5, .long x0), (0, .long x0), (2, .int x2), (3, .long x3)]) hx hb dX2_trace_7 hl (by decide) rfl (fun ls hl => ?_)
  refine wX2_trace_L9 E0 N x2 x3 hP _ (fun x7_4 ls hl hf => ?_) N _ _ _ _ (lv_sub hl [4, 5, 2, 1, 0] rfl) hf
  refine lv_lload hx hb dX2_trace_38 (lv_at hl 0 rfl) ?_
  exact W.lret (v := x7_4) hx hb hr (fun t ht hW => ⟨_, rfl, Option.some.inj hf, ht⟩) (fun _ h => absurd h List.not_mem_nil) dX2_trace_40

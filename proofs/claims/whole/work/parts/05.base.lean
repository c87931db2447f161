/-! my own base: pure helpers of the walks, the nest's words, contracts' shapes -/
theorem bind_some {α β : Type} {x : Option α} {g : α → Option β} {r : β} (h : x.bind g = some r) : ∃ a, x = some a ∧ g a = some r := by
  cases x with
  | none => cases h
  | some a => exact ⟨a, rfl, h⟩
theorem ite_t {α : Type} {c : Prop} [Decidable c] {a b : Option α} {r : α} (h : (if c then a else b) = some r) (hc : c) : a = some r := by rw [if_pos hc] at h; exact h
theorem ite_f {α : Type} {c : Prop} [Decidable c] {a b : Option α} {r : α} (h : (if c then a else b) = some r) (hc : ¬ c) : b = some r := by rw [if_neg hc] at h; exact h
theorem ite_n {α : Type} {c : Prop} [Decidable c] {b : Option α} {r : α} (h : (if c then none else b) = some r) : ¬ c ∧ b = some r := by
  by_cases hc : c
  · rw [if_pos hc] at h; cases h
  · rw [if_neg hc] at h; exact ⟨hc, h⟩
theorem bz_n {x : Int32} (h : x = 0 ∨ x = 1) : narrow .boolean (.int x) = .int x := by rcases h with rfl | rfl <;> rfl
theorem bz_f {x : Int32} (h : x = 0 ∨ x = 1) : fits .boolean (.int x) = true := by rcases h with rfl | rfl <;> rfl
abbrev OOB (i : Int32) (n : Nat) : Prop := i < 0 ∨ n ≤ i.toNatClampNeg
def iRem (x y : Int32) : Int32 := x - x / y * y
def lRem (x y : Int64) : Int64 := x - x / y * y
def iShl (x y : Int32) : Int32 := x <<< (y &&& 31)
def iShr (x y : Int32) : Int32 := x >>> (y &&& 31)
def lShl (x : Int64) (y : Int32) : Int64 := x <<< (y.toInt64 &&& 63)
def lShr (x : Int64) (y : Int32) : Int64 := x >>> (y.toInt64 &&& 63)
def lUsh (x : Int64) (y : Int32) : Int64 := (x.toUInt64 >>> (y.toInt64.toUInt64 &&& Int64.toUInt64 63)).toInt64
def kPR : Nat → Int32 := fun k => ([3, 5, 7, 11, 13, 17, 19, 23, 29, 31, 41, 43, 47, 73, 89, 113, 127, 151, 233, 241, 257, 331, 337, 601, 683, 1103, 1801, 2089, 2731, 8191, 65537, 131071, 178481, 262657, 524287, 2147483647] : List Int32).getD k 0
def kAM : Nat → Int32 := fun k => ([65521, 255] : List Int32).getD k 0
def kAH : Nat → Int32 := fun k => ([16, 8] : List Int32).getD k 0
def kAF : Nat → Int32 := fun k => ([1, 0] : List Int32).getD k 0

def nestM : List (String × Nat × MethodName) := [(RX5, 28, yX3_init), (RX5, 33, yX1_init), (RX1, 11, yX0_init), (RX1, 20, yX4_init), (RX5, 38, yX1_become), (RX5, 56, yX1_behindOctet), (RX1, 50, yX2_timesX), (RX5, 60, yX1_sumOf), (RX5, 72, yX1_registerOf), (RX5, 75, yX1_movedByOctets), (RX1, 56, yX2_product), (RX5, 82, yX1_octetsBetween), (RX5, 92, yX0_findFor), (RX0, 34, yX2_degree), (RX0, 38, yX2_product), (RX0, 42, yX2_greatestCommon), (RX0, 65, yX2_timesX), (RX0, 69, yX2_trace), (RX0, 62, yX2_remainder), (RX0, 77, yX2_quotient), (RX5, 108, yX0_foundPeriod), (RX0, 93, yX2_powerOfX), (RX5, 116, yX4_findFor), (RX4, 25, yX2_degree), (RX4, 31, yX3_clear), (RX4, 36, yX3_add), (RX4, 40, yX2_timesX), (RX4, 48, yX3_has), (RX4, 52, yX3_hasTwo), (RX5, 121, yX4_fewest)]
def nestF : List (String × Nat × String × String × String) := [(RX5, 101, "SumForms$Factors", "polynomials", "[J"), (RX5, 105, "SumForms$Factors", "times", "[I"), (RX5, 98, "SumForms$Factors", "size", "I"), (RX5, 79, "SumForms$Form", "width", "I"), (RX5, 89, "SumForms$Form", "generator", "J"), (RX5, 52, "SumForms$Form", "start", "J"), (RX5, 85, "SumForms$Form", "factoring", "LSumForms$Factors;"), (RX5, 112, "SumForms$Form", "unseen", "LSumForms$Unseen;")]
def NW (U : State) : Prop := (∀ q ∈ nestM, va_Nw (.methodLinkNest q.1 q.2.1 q.2.2 "SumForms") U) ∧ (∀ q ∈ nestF, va_Nw (.fieldLinkNest q.1 q.2.1 q.2.2.1 q.2.2.2.1 q.2.2.2.2 "SumForms") U)
theorem NW.warm {s U : State} (hW : s.WarmedH U.vm) (h : NW s) : NW U := ⟨fun q hq => va_Nw.warmM hW (h.1 q hq), fun q hq => va_Nw.warmF hW (h.2 q hq)⟩
theorem NW.same {s U : State} (hv : s.vm = U.vm) (h : NW s) : NW U := ⟨fun q hq => va_Nw.same rfl hv (h.1 q hq), fun q hq => va_Nw.same rfl hv (h.2 q hq)⟩
theorem nwX5_28 {U : State} (h : NW U) : va_Nw (.methodLinkNest RX5 28 yX3_init "SumForms") U := h.1 (RX5, 28, yX3_init) (List.mem_of_getElem? (i := 0) rfl)
theorem nwX5_33 {U : State} (h : NW U) : va_Nw (.methodLinkNest RX5 33 yX1_init "SumForms") U := h.1 (RX5, 33, yX1_init) (List.mem_of_getElem? (i := 1) rfl)
theorem nwX1_11 {U : State} (h : NW U) : va_Nw (.methodLinkNest RX1 11 yX0_init "SumForms") U := h.1 (RX1, 11, yX0_init) (List.mem_of_getElem? (i := 2) rfl)
theorem nwX1_20 {U : State} (h : NW U) : va_Nw (.methodLinkNest RX1 20 yX4_init "SumForms") U := h.1 (RX1, 20, yX4_init) (List.mem_of_getElem? (i := 3) rfl)
theorem nwX5_38 {U : State} (h : NW U) : va_Nw (.methodLinkNest RX5 38 yX1_become "SumForms") U := h.1 (RX5, 38, yX1_become) (List.mem_of_getElem? (i := 4) rfl)
theorem nwX5_56 {U : State} (h : NW U) : va_Nw (.methodLinkNest RX5 56 yX1_behindOctet "SumForms") U := h.1 (RX5, 56, yX1_behindOctet) (List.mem_of_getElem? (i := 5) rfl)
theorem nwX1_50 {U : State} (h : NW U) : va_Nw (.methodLinkNest RX1 50 yX2_timesX "SumForms") U := h.1 (RX1, 50, yX2_timesX) (List.mem_of_getElem? (i := 6) rfl)
theorem nwX5_60 {U : State} (h : NW U) : va_Nw (.methodLinkNest RX5 60 yX1_sumOf "SumForms") U := h.1 (RX5, 60, yX1_sumOf) (List.mem_of_getElem? (i := 7) rfl)
theorem nwX5_72 {U : State} (h : NW U) : va_Nw (.methodLinkNest RX5 72 yX1_registerOf "SumForms") U := h.1 (RX5, 72, yX1_registerOf) (List.mem_of_getElem? (i := 8) rfl)
theorem nwX5_75 {U : State} (h : NW U) : va_Nw (.methodLinkNest RX5 75 yX1_movedByOctets "SumForms") U := h.1 (RX5, 75, yX1_movedByOctets) (List.mem_of_getElem? (i := 9) rfl)
theorem nwX1_56 {U : State} (h : NW U) : va_Nw (.methodLinkNest RX1 56 yX2_product "SumForms") U := h.1 (RX1, 56, yX2_product) (List.mem_of_getElem? (i := 10) rfl)
theorem nwX5_82 {U : State} (h : NW U) : va_Nw (.methodLinkNest RX5 82 yX1_octetsBetween "SumForms") U := h.1 (RX5, 82, yX1_octetsBetween) (List.mem_of_getElem? (i := 11) rfl)
theorem nwX5_92 {U : State} (h : NW U) : va_Nw (.methodLinkNest RX5 92 yX0_findFor "SumForms") U := h.1 (RX5, 92, yX0_findFor) (List.mem_of_getElem? (i := 12) rfl)
theorem nwX0_34 {U : State} (h : NW U) : va_Nw (.methodLinkNest RX0 34 yX2_degree "SumForms") U := h.1 (RX0, 34, yX2_degree) (List.mem_of_getElem? (i := 13) rfl)
theorem nwX0_38 {U : State} (h : NW U) : va_Nw (.methodLinkNest RX0 38 yX2_product "SumForms") U := h.1 (RX0, 38, yX2_product) (List.mem_of_getElem? (i := 14) rfl)
theorem nwX0_42 {U : State} (h : NW U) : va_Nw (.methodLinkNest RX0 42 yX2_greatestCommon "SumForms") U := h.1 (RX0, 42, yX2_greatestCommon) (List.mem_of_getElem? (i := 15) rfl)
theorem nwX0_65 {U : State} (h : NW U) : va_Nw (.methodLinkNest RX0 65 yX2_timesX "SumForms") U := h.1 (RX0, 65, yX2_timesX) (List.mem_of_getElem? (i := 16) rfl)
theorem nwX0_69 {U : State} (h : NW U) : va_Nw (.methodLinkNest RX0 69 yX2_trace "SumForms") U := h.1 (RX0, 69, yX2_trace) (List.mem_of_getElem? (i := 17) rfl)
theorem nwX0_62 {U : State} (h : NW U) : va_Nw (.methodLinkNest RX0 62 yX2_remainder "SumForms") U := h.1 (RX0, 62, yX2_remainder) (List.mem_of_getElem? (i := 18) rfl)
theorem nwX0_77 {U : State} (h : NW U) : va_Nw (.methodLinkNest RX0 77 yX2_quotient "SumForms") U := h.1 (RX0, 77, yX2_quotient) (List.mem_of_getElem? (i := 19) rfl)
theorem nwX5_108 {U : State} (h : NW U) : va_Nw (.methodLinkNest RX5 108 yX0_foundPeriod "SumForms") U := h.1 (RX5, 108, yX0_foundPeriod) (List.mem_of_getElem? (i := 20) rfl)
theorem nwX0_93 {U : State} (h : NW U) : va_Nw (.methodLinkNest RX0 93 yX2_powerOfX "SumForms") U := h.1 (RX0, 93, yX2_powerOfX) (List.mem_of_getElem? (i := 21) rfl)
theorem nwX5_116 {U : State} (h : NW U) : va_Nw (.methodLinkNest RX5 116 yX4_findFor "SumForms") U := h.1 (RX5, 116, yX4_findFor) (List.mem_of_getElem? (i := 22) rfl)
theorem nwX4_25 {U : State} (h : NW U) : va_Nw (.methodLinkNest RX4 25 yX2_degree "SumForms") U := h.1 (RX4, 25, yX2_degree) (List.mem_of_getElem? (i := 23) rfl)
theorem nwX4_31 {U : State} (h : NW U) : va_Nw (.methodLinkNest RX4 31 yX3_clear "SumForms") U := h.1 (RX4, 31, yX3_clear) (List.mem_of_getElem? (i := 24) rfl)
theorem nwX4_36 {U : State} (h : NW U) : va_Nw (.methodLinkNest RX4 36 yX3_add "SumForms") U := h.1 (RX4, 36, yX3_add) (List.mem_of_getElem? (i := 25) rfl)
theorem nwX4_40 {U : State} (h : NW U) : va_Nw (.methodLinkNest RX4 40 yX2_timesX "SumForms") U := h.1 (RX4, 40, yX2_timesX) (List.mem_of_getElem? (i := 26) rfl)
theorem nwX4_48 {U : State} (h : NW U) : va_Nw (.methodLinkNest RX4 48 yX3_has "SumForms") U := h.1 (RX4, 48, yX3_has) (List.mem_of_getElem? (i := 27) rfl)
theorem nwX4_52 {U : State} (h : NW U) : va_Nw (.methodLinkNest RX4 52 yX3_hasTwo "SumForms") U := h.1 (RX4, 52, yX3_hasTwo) (List.mem_of_getElem? (i := 28) rfl)
theorem nwX5_121 {U : State} (h : NW U) : va_Nw (.methodLinkNest RX5 121 yX4_fewest "SumForms") U := h.1 (RX5, 121, yX4_fewest) (List.mem_of_getElem? (i := 29) rfl)
theorem nwX5_101 {U : State} (h : NW U) : va_Nw (.fieldLinkNest RX5 101 "SumForms$Factors" "polynomials" "[J" "SumForms") U := h.2 (RX5, 101, "SumForms$Factors", "polynomials", "[J") (List.mem_of_getElem? (i := 0) rfl)
theorem nwX5_105 {U : State} (h : NW U) : va_Nw (.fieldLinkNest RX5 105 "SumForms$Factors" "times" "[I" "SumForms") U := h.2 (RX5, 105, "SumForms$Factors", "times", "[I") (List.mem_of_getElem? (i := 1) rfl)
theorem nwX5_98 {U : State} (h : NW U) : va_Nw (.fieldLinkNest RX5 98 "SumForms$Factors" "size" "I" "SumForms") U := h.2 (RX5, 98, "SumForms$Factors", "size", "I") (List.mem_of_getElem? (i := 2) rfl)
theorem nwX5_79 {U : State} (h : NW U) : va_Nw (.fieldLinkNest RX5 79 "SumForms$Form" "width" "I" "SumForms") U := h.2 (RX5, 79, "SumForms$Form", "width", "I") (List.mem_of_getElem? (i := 3) rfl)
theorem nwX5_89 {U : State} (h : NW U) : va_Nw (.fieldLinkNest RX5 89 "SumForms$Form" "generator" "J" "SumForms") U := h.2 (RX5, 89, "SumForms$Form", "generator", "J") (List.mem_of_getElem? (i := 4) rfl)
theorem nwX5_52 {U : State} (h : NW U) : va_Nw (.fieldLinkNest RX5 52 "SumForms$Form" "start" "J" "SumForms") U := h.2 (RX5, 52, "SumForms$Form", "start", "J") (List.mem_of_getElem? (i := 5) rfl)
theorem nwX5_85 {U : State} (h : NW U) : va_Nw (.fieldLinkNest RX5 85 "SumForms$Form" "factoring" "LSumForms$Factors;" "SumForms") U := h.2 (RX5, 85, "SumForms$Form", "factoring", "LSumForms$Factors;") (List.mem_of_getElem? (i := 6) rfl)
theorem nwX5_112 {U : State} (h : NW U) : va_Nw (.fieldLinkNest RX5 112 "SumForms$Form" "unseen" "LSumForms$Unseen;" "SumForms") U := h.2 (RX5, 112, "SumForms$Form", "unseen", "LSumForms$Unseen;") (List.mem_of_getElem? (i := 7) rfl)
abbrev wTy (cy : Nat → ClassId) : List (ClassId × FieldType) := [(cy 0, .int), (cy 1, .long), (cy 2, .boolean), (cy 3, .object "SumForms$Form")]
def Bg (D : va_G) (cy : Nat → ClassId) (U : State) : Prop := va_K D vwCl (wTy cy) U ∧ NW U
theorem Bg.moved {D : va_G} {cy : Nat → ClassId} {s U : State} (hW : s.WarmedH U.vm) (h : Bg D cy s) : Bg D cy U := ⟨va_K.moved hW.alike h.1, NW.warm hW h.2⟩
theorem Bg.calling {D : va_G} {cy : Nat → ClassId} {U : State} {g : JFrame} {mk : MethodId} {a : Array Value} (h : Bg D cy U) : Bg D cy (U.calling g mk a) := ⟨va_K.moved (u := U) (U := U.calling g mk a) (Vm.Alike.refl U.vm) h.1, NW.same rfl h.2⟩
/-- a reader's start: the cells ws lie there -/
def Rd (D : va_G) (cy : Nat → ClassId) (ws : va_W) (U : State) : Prop := va_P D vwCl ws U.heap ∧ Bg D cy U
theorem Rd.blind {D : va_G} {cy : Nat → ClassId} {ws : va_W} {As : List Value} : FrameBlind (va_Pc As (Rd D cy ws)) := fun _ _ _ _ q => ⟨q.1, q.2.1, q.2.2.calling⟩
theorem preS_rd {D : va_G} {cy : Nat → ClassId} {ws : va_W} {s : State} {H : Heap} (As : List Value) (hP : va_P D vwCl ws H) (hB : Bg D cy s) : PreS s H (va_Pc As (Rd D cy ws)) As := ⟨Rd.blind, fun U hU hW => ⟨rfl, by rw [hU]; exact hP, hB.moved hW⟩⟩
theorem preV_rd {D : va_G} {cy : Nat → ClassId} {ws : va_W} {s : State} {H : Heap} {a q0 ci : Nat} {q : vw_C} {fs : List Value} (As : List Value) (hP : va_P D vwCl ws H) (hB : Bg D cy s) (hc : vwCl[ci]? = some q) (he : ws[q0]? = some (a, .inr (ci, fs))) : PreV s H q.1 a (va_Pc (.ref a :: As) (Rd D cy ws)) As := ⟨Rd.blind, va_recv hB.1 hP hc he, fun U hU hW => ⟨rfl, by rw [hU]; exact hP, hB.moved hW⟩⟩
/-- a writer's start, and the world behind it -/
def Wr (D : va_G) (cy : Nat → ClassId) (ws : va_W) (sz : Nat) (U : State) : Prop := U.heap.size = sz ∧ va_P D vwCl ws U.heap ∧ va_D (fun _ => True) ws ∧ Bg D cy U
theorem Wr.blind {D : va_G} {cy : Nat → ClassId} {ws : va_W} {sz : Nat} {As : List Value} : FrameBlind (va_Pc As (Wr D cy ws sz)) := fun _ _ _ _ q => ⟨q.1, q.2.1, q.2.2.1, q.2.2.2.1, q.2.2.2.2.calling⟩
theorem preV_wr {D : va_G} {cy : Nat → ClassId} {ws : va_W} {A : Nat → Prop} {s : State} {H : Heap} {a q0 ci : Nat} {q : vw_C} {fs : List Value} (As : List Value) (hP : va_P D vwCl ws H) (hD : va_D A ws) (hB : Bg D cy s) (hc : vwCl[ci]? = some q) (he : ws[q0]? = some (a, .inr (ci, fs))) : PreV s H q.1 a (va_Pc (.ref a :: As) (Wr D cy ws H.size)) As := ⟨Wr.blind, va_recv hB.1 hP hc he, fun U hU hW => ⟨rfl, by rw [hU], by rw [hU]; exact hP, hD.weaken (fun _ _ _ _ => trivial), hB.moved hW⟩⟩
def Qw (D : va_G) (A : Nat → Prop) (w1 : va_W) (t : State) : Prop := va_P D vwCl w1 t.heap ∧ va_D A w1
abbrev Qwv (D : va_G) (A : Nat → Prop) (w1 : va_W) : Array Value → State → Outcome → State → Prop := va_Qv (S := Unit) (fun _ => True) (fun _ => Qw D A w1) A
abbrev Qwi (D : va_G) (A : Nat → Prop) (w1 : va_W) (r0 : Int32) : Array Value → State → Outcome → State → Prop := va_Qi (S := Unit) (fun r _ => r = r0) (fun _ => Qw D A w1) A
abbrev Qwl (D : va_G) (A : Nat → Prop) (w1 : va_W) (r0 : Int64) : Array Value → State → Outcome → State → Prop := va_Ql (S := Unit) (fun r _ => r = r0) (fun _ => Qw D A w1) A
abbrev En (p : Program) (m : MethodId) (c : Code) (cc : ByteArray) (nL : Nat) (s : State) (args : Array Value) (Ts : List Cond) (own : String) (meth : Method) (ret : Option FieldType) (D : va_G) (cy : Nat → ClassId) : Prop := CallFix p m c cc nL s args Ts own ∧ meth.sig.returnType = ret ∧ meth.locks = false ∧ Bg D cy s
/-- the static tables -/
def ST0 (t : Nat) (A : Nat → Prop) (U : State) (H : Heap) : Prop := va_Z "SumForms$Factors" "PRIMES" "[I" (.ref t) A U H ∧ va_T .int t 36 (fun j => .int (kPR j)) A U H
def ST5 (t1 t2 t3 : Nat) (A : Nat → Prop) (U : State) (H : Heap) : Prop := (va_Z "SumForms" "ADDING_MODULUS" "[I" (.ref t1) A U H ∧ va_T .int t1 2 (fun j => .int (kAM j)) A U H) ∧ (va_Z "SumForms" "ADDING_HALF_BITS" "[I" (.ref t2) A U H ∧ va_T .int t2 2 (fun j => .int (kAH j)) A U H) ∧ (va_Z "SumForms" "ADDING_FIRST" "[I" (.ref t3) A U H ∧ va_T .int t3 2 (fun j => .int (kAF j)) A U H)
theorem ST0.moved {t : Nat} {A : Nat → Prop} {u U : State} {H : Heap} (hvm : u.vm.Alike U.vm) (h : ST0 t A u H) : ST0 t A U H := ⟨h.1.moved hvm, h.2.moved hvm⟩
theorem ST0.kept {t : Nat} {A : Nat → Prop} {U : State} {H H1 : Heap} (h : ST0 t A U H) (hq : ∀ a : Nat, a < H.size → ¬ A a → H1[a]? = H[a]?) : ST0 t A U H1 := ⟨h.1.kept hq, h.2.kept hq⟩
theorem ST0.narrow {t : Nat} {A B : Nat → Prop} {U : State} {H : Heap} (h : ST0 t A U H) (hAB : ∀ q, B q → A q) : ST0 t B U H := ⟨h.1.narrow hAB, h.2.narrow hAB⟩
theorem ST5.moved {t1 t2 t3 : Nat} {A : Nat → Prop} {u U : State} {H : Heap} (hvm : u.vm.Alike U.vm) (h : ST5 t1 t2 t3 A u H) : ST5 t1 t2 t3 A U H := ⟨⟨h.1.1.moved hvm, h.1.2.moved hvm⟩, ⟨h.2.1.1.moved hvm, h.2.1.2.moved hvm⟩, ⟨h.2.2.1.moved hvm, h.2.2.2.moved hvm⟩⟩
theorem ST5.kept {t1 t2 t3 : Nat} {A : Nat → Prop} {U : State} {H H1 : Heap} (h : ST5 t1 t2 t3 A U H) (hq : ∀ a : Nat, a < H.size → ¬ A a → H1[a]? = H[a]?) : ST5 t1 t2 t3 A U H1 := ⟨⟨h.1.1.kept hq, h.1.2.kept hq⟩, ⟨h.2.1.1.kept hq, h.2.1.2.kept hq⟩, ⟨h.2.2.1.kept hq, h.2.2.2.kept hq⟩⟩
theorem ST5.narrow {t1 t2 t3 : Nat} {A B : Nat → Prop} {U : State} {H : Heap} (h : ST5 t1 t2 t3 A U H) (hAB : ∀ q, B q → A q) : ST5 t1 t2 t3 B U H := ⟨⟨h.1.1.narrow hAB, h.1.2.narrow hAB⟩, ⟨h.2.1.1.narrow hAB, h.2.1.2.narrow hAB⟩, ⟨h.2.2.1.narrow hAB, h.2.2.2.narrow hAB⟩⟩
/-- starts with a static table besides -/
def RdT (D : va_G) (cy : Nat → ClassId) (ws : va_W) (Z : State → Heap → Prop) (U : State) : Prop := va_P D vwCl ws U.heap ∧ Bg D cy U ∧ Z U U.heap
def TabOk (Z : State → Heap → Prop) : Prop := ∀ (u U : State) (H : Heap), u.vm.Alike U.vm → Z u H → Z U H
theorem RdT.blind {D : va_G} {cy : Nat → ClassId} {ws : va_W} {Z : State → Heap → Prop} (hZ : TabOk Z) {As : List Value} : FrameBlind (va_Pc As (RdT D cy ws Z)) := fun a U g mk q => ⟨q.1, q.2.1, q.2.2.1.calling, hZ U (U.calling g mk a) _ (Vm.Alike.refl U.vm) q.2.2.2⟩
theorem preS_rdT {D : va_G} {cy : Nat → ClassId} {ws : va_W} {Z : State → Heap → Prop} (hZ : TabOk Z) {s : State} {H : Heap} (As : List Value) (hP : va_P D vwCl ws H) (hB : Bg D cy s) (hT : Z s H) : PreS s H (va_Pc As (RdT D cy ws Z)) As := ⟨RdT.blind hZ, fun U hU hW => ⟨rfl, by rw [hU]; exact hP, hB.moved hW, by rw [hU]; exact hZ s U H hW.alike hT⟩⟩
theorem preV_rdT {D : va_G} {cy : Nat → ClassId} {ws : va_W} {Z : State → Heap → Prop} (hZ : TabOk Z) {s : State} {H : Heap} {a q0 ci : Nat} {q : vw_C} {fs : List Value} (As : List Value) (hP : va_P D vwCl ws H) (hB : Bg D cy s) (hT : Z s H) (hc : vwCl[ci]? = some q) (he : ws[q0]? = some (a, .inr (ci, fs))) : PreV s H q.1 a (va_Pc (.ref a :: As) (RdT D cy ws Z)) As := ⟨RdT.blind hZ, va_recv hB.1 hP hc he, fun U hU hW => ⟨rfl, by rw [hU]; exact hP, hB.moved hW, by rw [hU]; exact hZ s U H hW.alike hT⟩⟩
def WrT (D : va_G) (cy : Nat → ClassId) (ws : va_W) (sz : Nat) (Z : State → Heap → Prop) (U : State) : Prop := U.heap.size = sz ∧ va_P D vwCl ws U.heap ∧ va_D (fun _ => True) ws ∧ Bg D cy U ∧ Z U U.heap
theorem WrT.blind {D : va_G} {cy : Nat → ClassId} {ws : va_W} {sz : Nat} {Z : State → Heap → Prop} (hZ : TabOk Z) {As : List Value} : FrameBlind (va_Pc As (WrT D cy ws sz Z)) := fun a U g mk q => ⟨q.1, q.2.1, q.2.2.1, q.2.2.2.1, q.2.2.2.2.1.calling, hZ U (U.calling g mk a) _ (Vm.Alike.refl U.vm) q.2.2.2.2.2⟩
theorem preV_wrT {D : va_G} {cy : Nat → ClassId} {ws : va_W} {Z : State → Heap → Prop} (hZ : TabOk Z) {A : Nat → Prop} {s : State} {H : Heap} {a q0 ci : Nat} {q : vw_C} {fs : List Value} (As : List Value) (hP : va_P D vwCl ws H) (hD : va_D A ws) (hB : Bg D cy s) (hT : Z s H) (hc : vwCl[ci]? = some q) (he : ws[q0]? = some (a, .inr (ci, fs))) : PreV s H q.1 a (va_Pc (.ref a :: As) (WrT D cy ws H.size Z)) As := ⟨WrT.blind hZ, va_recv hB.1 hP hc he, fun U hU hW => ⟨rfl, by rw [hU], by rw [hU]; exact hP, hD.weaken (fun _ _ _ _ => trivial), hB.moved hW, by rw [hU]; exact hZ s U H hW.alike hT⟩⟩
theorem tab0 (t : Nat) (A : Nat → Prop) : TabOk (ST0 t A) := fun _ _ _ h => ST0.moved h
theorem tab5 (t1 t2 t3 : Nat) (A : Nat → Prop) : TabOk (ST5 t1 t2 t3 A) := fun _ _ _ h => ST5.moved h
section ROWS
variable {p : Program} {l : Launch} {e : Env} {R : Room} {s : State} {m : MethodId} {args : Array Value} {below : List Frame} {meth : Method} {c : Code} {H : Heap} {locs : List Loc} {cells slots : Nat} {Q : State → Prop}
variable {cc : ByteArray} {pc : Nat} {ls : Array Slot} {rest : List Value}
theorem zz_ishl (hexec : p.tables.exec = Jvm.exec) (hb : c.code = cc) {x y : Int32} (hdg : decode cc pc = .ok (.ishl, 1)) (k : W p l e R s m args below meth c H locs cells slots Q (F0 m (pc + 1) ls (.int (iShl x y) :: rest))) : W p l e R s m args below meth c H locs cells slots Q (F0 m pc ls (.int y :: .int x :: rest)) := lv_ishl hexec hb hdg k
theorem zz_ishr (hexec : p.tables.exec = Jvm.exec) (hb : c.code = cc) {x y : Int32} (hdg : decode cc pc = .ok (.ishr, 1)) (k : W p l e R s m args below meth c H locs cells slots Q (F0 m (pc + 1) ls (.int (iShr x y) :: rest))) : W p l e R s m args below meth c H locs cells slots Q (F0 m pc ls (.int y :: .int x :: rest)) := lv_ishr hexec hb hdg k
theorem zz_irem (hexec : p.tables.exec = Jvm.exec) (hb : c.code = cc) {x y : Int32} (hdg : decode cc pc = .ok (.irem, 1)) (hne : ¬ y = 0) (k : W p l e R s m args below meth c H locs cells slots Q (F0 m (pc + 1) ls (.int (iRem x y) :: rest))) : W p l e R s m args below meth c H locs cells slots Q (F0 m pc ls (.int y :: .int x :: rest)) := lv_irem hexec hb hdg hne k
theorem zz_lrem (hexec : p.tables.exec = Jvm.exec) (hb : c.code = cc) {x y : Int64} (hdg : decode cc pc = .ok (.lrem, 1)) (hne : ¬ y = 0) (k : W p l e R s m args below meth c H locs cells slots Q (F0 m (pc + 1) ls (.long (lRem x y) :: rest))) : W p l e R s m args below meth c H locs cells slots Q (F0 m pc ls (.long y :: .long x :: rest)) := lv_lrem hexec hb hdg hne k
theorem zz_lshl (hexec : p.tables.exec = Jvm.exec) (hb : c.code = cc) {x : Int64} {y : Int32} (hdg : decode cc pc = .ok (.lshl, 1)) (k : W p l e R s m args below meth c H locs cells slots Q (F0 m (pc + 1) ls (.long (lShl x y) :: rest))) : W p l e R s m args below meth c H locs cells slots Q (F0 m pc ls (.int y :: .long x :: rest)) := lv_lshl hexec hb hdg rfl k
theorem zz_lshr (hexec : p.tables.exec = Jvm.exec) (hb : c.code = cc) {x : Int64} {y : Int32} (hdg : decode cc pc = .ok (.lshr, 1)) (k : W p l e R s m args below meth c H locs cells slots Q (F0 m (pc + 1) ls (.long (lShr x y) :: rest))) : W p l e R s m args below meth c H locs cells slots Q (F0 m pc ls (.int y :: .long x :: rest)) := lv_lshr hexec hb hdg rfl k
theorem zz_lushr (hexec : p.tables.exec = Jvm.exec) (hb : c.code = cc) {x : Int64} {y : Int32} (hdg : decode cc pc = .ok (.lushr, 1)) (k : W p l e R s m args below meth c H locs cells slots Q (F0 m (pc + 1) ls (.long (lUsh x y) :: rest))) : W p l e R s m args below meth c H locs cells slots Q (F0 m pc ls (.int y :: .long x :: rest)) := lv_lushr hexec hb hdg rfl k
theorem zz_lc_eq (hexec : p.tables.exec = Jvm.exec) (hb : c.code = cc) {x y : Int64} {off : Int} {tgt : Nat} (hd1 : decode cc pc = .ok (.lcmp, 1)) (hd2 : decode cc (pc + 1) = .ok (.ifCond .eq off, 3)) (ht : ((pc + 1 : Nat) : Int) + off = (tgt : Int)) (kt : x = y → W p l e R s m args below meth c H locs cells slots Q (F0 m tgt ls rest)) (kf : ¬ x = y → W p l e R s m args below meth c H locs cells slots Q (F0 m (pc + 1 + 3) ls rest)) : W p l e R s m args below meth c H locs cells slots Q (F0 m pc ls (.long y :: .long x :: rest)) := W.lcmp hexec hb hd1 (lv_if_eq hexec hb hd2 ht (fun h => kt ((lg_cmp_eq x y).mp h)) (fun h => kf (fun z => h ((lg_cmp_eq x y).mpr z))))
theorem zz_lc_ne (hexec : p.tables.exec = Jvm.exec) (hb : c.code = cc) {x y : Int64} {off : Int} {tgt : Nat} (hd1 : decode cc pc = .ok (.lcmp, 1)) (hd2 : decode cc (pc + 1) = .ok (.ifCond .ne off, 3)) (ht : ((pc + 1 : Nat) : Int) + off = (tgt : Int)) (kt : ¬ x = y → W p l e R s m args below meth c H locs cells slots Q (F0 m tgt ls rest)) (kf : x = y → W p l e R s m args below meth c H locs cells slots Q (F0 m (pc + 1 + 3) ls rest)) : W p l e R s m args below meth c H locs cells slots Q (F0 m pc ls (.long y :: .long x :: rest)) := W.lcmp hexec hb hd1 (lv_if_ne hexec hb hd2 ht (fun h => kt (fun z => h ((lg_cmp_eq x y).mpr z))) (fun h => kf ((lg_cmp_eq x y).mp h)))
theorem zz_lc_lt (hexec : p.tables.exec = Jvm.exec) (hb : c.code = cc) {x y : Int64} {off : Int} {tgt : Nat} (hd1 : decode cc pc = .ok (.lcmp, 1)) (hd2 : decode cc (pc + 1) = .ok (.ifCond .lt off, 3)) (ht : ((pc + 1 : Nat) : Int) + off = (tgt : Int)) (kt : x < y → W p l e R s m args below meth c H locs cells slots Q (F0 m tgt ls rest)) (kf : ¬ x < y → W p l e R s m args below meth c H locs cells slots Q (F0 m (pc + 1 + 3) ls rest)) : W p l e R s m args below meth c H locs cells slots Q (F0 m pc ls (.long y :: .long x :: rest)) := W.lcmp hexec hb hd1 (lv_if_lt hexec hb hd2 ht (fun h => kt ((lg_cmp_lt x y).mp h)) (fun h => kf (fun z => h ((lg_cmp_lt x y).mpr z))))
theorem zz_lc_ge (hexec : p.tables.exec = Jvm.exec) (hb : c.code = cc) {x y : Int64} {off : Int} {tgt : Nat} (hd1 : decode cc pc = .ok (.lcmp, 1)) (hd2 : decode cc (pc + 1) = .ok (.ifCond .ge off, 3)) (ht : ((pc + 1 : Nat) : Int) + off = (tgt : Int)) (kt : y ≤ x → W p l e R s m args below meth c H locs cells slots Q (F0 m tgt ls rest)) (kf : ¬ y ≤ x → W p l e R s m args below meth c H locs cells slots Q (F0 m (pc + 1 + 3) ls rest)) : W p l e R s m args below meth c H locs cells slots Q (F0 m pc ls (.long y :: .long x :: rest)) := W.lcmp hexec hb hd1 (lv_if_ge hexec hb hd2 ht (fun h => kt ((lg_cmp_ge x y).mp h)) (fun h => kf (fun z => h ((lg_cmp_ge x y).mpr z))))
theorem zz_lc_gt (hexec : p.tables.exec = Jvm.exec) (hb : c.code = cc) {x y : Int64} {off : Int} {tgt : Nat} (hd1 : decode cc pc = .ok (.lcmp, 1)) (hd2 : decode cc (pc + 1) = .ok (.ifCond .gt off, 3)) (ht : ((pc + 1 : Nat) : Int) + off = (tgt : Int)) (kt : y < x → W p l e R s m args below meth c H locs cells slots Q (F0 m tgt ls rest)) (kf : ¬ y < x → W p l e R s m args below meth c H locs cells slots Q (F0 m (pc + 1 + 3) ls rest)) : W p l e R s m args below meth c H locs cells slots Q (F0 m pc ls (.long y :: .long x :: rest)) := W.lcmp hexec hb hd1 (lv_if_gt hexec hb hd2 ht (fun h => kt ((lg_cmp_gt x y).mp h)) (fun h => kf (fun z => h ((lg_cmp_gt x y).mpr z))))
theorem zz_lc_le (hexec : p.tables.exec = Jvm.exec) (hb : c.code = cc) {x y : Int64} {off : Int} {tgt : Nat} (hd1 : decode cc pc = .ok (.lcmp, 1)) (hd2 : decode cc (pc + 1) = .ok (.ifCond .le off, 3)) (ht : ((pc + 1 : Nat) : Int) + off = (tgt : Int)) (kt : x ≤ y → W p l e R s m args below meth c H locs cells slots Q (F0 m tgt ls rest)) (kf : ¬ x ≤ y → W p l e R s m args below meth c H locs cells slots Q (F0 m (pc + 1 + 3) ls rest)) : W p l e R s m args below meth c H locs cells slots Q (F0 m pc ls (.long y :: .long x :: rest)) := W.lcmp hexec hb hd1 (lv_if_le hexec hb hd2 ht (fun h => kt ((lg_cmp_le x y).mp h)) (fun h => kf (fun z => h ((lg_cmp_le x y).mpr z))))
theorem zz_aald {D : va_G} {a : Nat} {tys : List (ClassId × FieldType)} {ws : va_W} (hexec : p.tables.exec = Jvm.exec) (hb : c.code = cc) (hK : va_K D vwCl tys s) (hP : va_P D vwCl ws H) (q0 t0 : Nat) {cA : ClassId} {C : String} {n : Nat} {f : Nat → Option Nat} (ha : ws[q0]? = some (a, .inl (cA, n, .inr (.inr (.inr (.inr f)))))) (ht : tys[t0]? = some (cA, .object C)) {i : Int32} (hin : vp_in i n) {b : Nat} (hfb : f i.toNatClampNeg = some b) (hdg : decode cc pc = .ok (.aaload, 1))
    (kk : W p l e R s m args below meth c H locs cells slots Q (F0 m (pc + 1) ls (.ref b :: rest))) : W p l e R s m args below meth c H locs cells slots Q (F0 m pc ls (.int i :: .ref a :: rest)) := va_aldq hexec hb hK hP q0 t0 ha ht hin hdg (by rw [hfb]; exact kk)
end ROWS
section CALLS
variable {p : Program} {l : Launch} {e : Env} {R : Room} {s : State} {m : MethodId} {args : Array Value} {below : List Frame} {meth : Method} {c : Code} {H : Heap} {locs : List Loc} {cells slots : Nat} {Q : State → Prop}
variable {pc : Nat} {ls : Array Slot} {rest st0 : List Value} {a : Array Value} {H0 : Heap}
theorem cz_i {r0 : Int32} (hr : va_Run p l e R s m args below meth c H locs cells slots 0 0 (F0 m pc ls st0) rest (vp_Si (fun r => r = r0) a) (fun _ => False)) (kk : W p l e R s m args below meth c H locs cells slots Q (F0 m (pc + 3) ls (.int r0 :: rest))) : W p l e R s m args below meth c H locs cells slots Q (F0 m pc ls st0) := vp_callSi hr.run (fun r h => by rw [h]; exact kk)
theorem cz_l {r0 : Int64} (hr : va_Run p l e R s m args below meth c H locs cells slots 0 0 (F0 m pc ls st0) rest (vp_Sl (fun r => r = r0) a) (fun _ => False)) (kk : W p l e R s m args below meth c H locs cells slots Q (F0 m (pc + 3) ls (.long r0 :: rest))) : W p l e R s m args below meth c H locs cells slots Q (F0 m pc ls st0) := vp_callSl hr.run (fun r h => by rw [h]; exact kk)
variable {D : va_G} {ws wc wr w1 : va_W} {A : Nat → Prop}
theorem cj_v (isC isR : List Nat) (hr : va_Run p l e R s m args below meth c H locs cells slots 0 0 (F0 m pc ls st0) rest (Qwv D (va_A wc H.size) w1 a) (va_A wc H.size)) (hP : va_P D vwCl ws H) (hD : va_D A ws) (hS : va_S A H0 H locs) (hA : ∀ q, H0.size ≤ q → A q) (hC : isC.map (fun i => ws[i]?) = wc.map some) (hR : isR.map (fun i => ws[i]?) = wr.map some) (hn : va_nd isR = true) (hdis : ∀ i ∈ isR, i ∉ isC)
    (kk : ∀ (H1 : Heap) (locs1 : List Loc), va_P D vwCl (wr ++ w1) H1 → va_D A (wr ++ w1) → va_S A H0 H1 locs1 → W p l e R s m args below meth c H1 locs1 cells slots Q (F0 m (pc + 3) ls rest)) : W p l e R s m args below meth c H locs cells slots Q (F0 m pc ls st0) := by
  have hFc := va_free hD hS hA isC hC
  refine va_callv hr hS (fun q _ h => hFc q h) hFc (fun u t H1 locs1 ht hvm hw hB hz1 hk1 hS1 => ?_)
  obtain ⟨hP1, hD1⟩ := hB
  rw [ht] at hP1
  obtain ⟨hP2, hD2⟩ := va_join hP hD isC isR hC hR hn hdis hk1 hFc hP1 hD1
  exact kk H1 locs1 hP2 hD2 hS1
theorem cj_i {r0 : Int32} (isC isR : List Nat) (hr : va_Run p l e R s m args below meth c H locs cells slots 0 0 (F0 m pc ls st0) rest (Qwi D (va_A wc H.size) w1 r0 a) (va_A wc H.size)) (hP : va_P D vwCl ws H) (hD : va_D A ws) (hS : va_S A H0 H locs) (hA : ∀ q, H0.size ≤ q → A q) (hC : isC.map (fun i => ws[i]?) = wc.map some) (hR : isR.map (fun i => ws[i]?) = wr.map some) (hn : va_nd isR = true) (hdis : ∀ i ∈ isR, i ∉ isC)
    (kk : ∀ (H1 : Heap) (locs1 : List Loc), va_P D vwCl (wr ++ w1) H1 → va_D A (wr ++ w1) → va_S A H0 H1 locs1 → W p l e R s m args below meth c H1 locs1 cells slots Q (F0 m (pc + 3) ls (.int r0 :: rest))) : W p l e R s m args below meth c H locs cells slots Q (F0 m pc ls st0) := by
  have hFc := va_free hD hS hA isC hC
  refine va_calli hr hS (fun q _ h => hFc q h) hFc (fun r u t H1 locs1 ht hvm hw hB hz1 hk1 hS1 => ?_)
  obtain ⟨hP1, hD1⟩ := hB
  rw [ht] at hP1
  obtain ⟨hP2, hD2⟩ := va_join hP hD isC isR hC hR hn hdis hk1 hFc hP1 hD1
  rw [show r = r0 from hw]
  exact kk H1 locs1 hP2 hD2 hS1
theorem cj_l {r0 : Int64} (isC isR : List Nat) (hr : va_Run p l e R s m args below meth c H locs cells slots 0 0 (F0 m pc ls st0) rest (Qwl D (va_A wc H.size) w1 r0 a) (va_A wc H.size)) (hP : va_P D vwCl ws H) (hD : va_D A ws) (hS : va_S A H0 H locs) (hA : ∀ q, H0.size ≤ q → A q) (hC : isC.map (fun i => ws[i]?) = wc.map some) (hR : isR.map (fun i => ws[i]?) = wr.map some) (hn : va_nd isR = true) (hdis : ∀ i ∈ isR, i ∉ isC)
    (kk : ∀ (H1 : Heap) (locs1 : List Loc), va_P D vwCl (wr ++ w1) H1 → va_D A (wr ++ w1) → va_S A H0 H1 locs1 → W p l e R s m args below meth c H1 locs1 cells slots Q (F0 m (pc + 3) ls (.long r0 :: rest))) : W p l e R s m args below meth c H locs cells slots Q (F0 m pc ls st0) := by
  have hFc := va_free hD hS hA isC hC
  refine va_calll hr hS (fun q _ h => hFc q h) hFc (fun r u t H1 locs1 ht hvm hw hB hz1 hk1 hS1 => ?_)
  obtain ⟨hP1, hD1⟩ := hB
  rw [ht] at hP1
  obtain ⟨hP2, hD2⟩ := va_join hP hD isC isR hC hR hn hdis hk1 hFc hP1 hD1
  rw [show r = r0 from hw]
  exact kk H1 locs1 hP2 hD2 hS1
end CALLS

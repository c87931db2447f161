/-! ===== the law: its loop ===== -/
theorem hi_of {i L : Nat} (h : i + 10 ≤ L) (hL : L < 2 ^ 30) : ∀ k : Int32, 0 ≤ k → k < 10 → vp_in (nI i + k) L := by
  intro k h0 h1
  obtain ⟨j, hj, rfl⟩ := nI_of (x := k) (Int32.not_lt.mpr h0)
  have h2 : j < 10 := (nI_ltI hj (by decide)).mp (show nI j < nI 10 from h1)
  rw [nI_add]
  exact vp_in_nI (by omega) (by omega)
theorem st_next {p : Program} {l : Launch} {e : Env} {s : State} {m : MethodId} {b : Nat} {below : List Frame} {meth : Method} {c : Code} {D : va_G} {cy : Nat → ClassId} {A : Nat → Prop} {L : Nat} {xs : Nat → Int32} {tPR tAM tAH tAF : Nat} (B : LB p m c s b L xs D cy A tPR tAM tAH tAF) {hsf hst hsq hre hrr hrs hmo hmW hmP hmS hmE hmI hmO hmT hmK hmF hmH hmM hmD hmR hmB : Nat} {sQ : Nat → Option Nat} {ad : Nat → FAd} {i : Nat} (hg : LAt p l e s m b below meth c D cy A hsf hst hsq hre hrr hrs hmo hmW hmP hmS hmE hmI hmO hmT hmK hmF hmH hmM hmD hmR hmB sQ ad (i + 10) 18) : LAt p l e s m b below meth c D cy A hsf hst hsq hre hrr hrs hmo hmW hmP hmS hmE hmI hmO hmT hmK hmF hmH hmM hmD hmR hmB sQ ad i 1296 := by
  intro k n fd sT eN eR eS mW mP mS mE mI mO mT mK mF mH mM mD mR mB hI H locs ls hP hD hS hl
  obtain ⟨hx, hb, hml, hown, hts, hB, hX, hbl, hbA, hA, hZ0, hZ5⟩ := B
  refine lv_iinc (v := nI (i + 10)) (lv' := [(3, .int (nI (i + 10))), (0, .ref b), (1, .ref hsf), (2, .ref hmo)]) hx hb dL_law_1296 hl (k := 3) rfl (by rw [show Int32.ofInt 10 = nI 10 by decide +kernel]; exact nI_add i 10) (by decide) rfl (fun ls hl => ?_)
  refine lv_goto (tgt := 18) hx hb dL_law_1299 (by decide) ?_
  exact hg k n fd sT eN eR eS mW mP mS mE mI mO mT mK mF mH mM mD mR mB hI H locs ls hP hD hS (lv_sub hl [1, 2, 3, 0] rfl)
set_option maxHeartbeats 2000000 in
theorem st_one {p : Program} {l : Launch} {e : Env} {s : State} {m : MethodId} {b : Nat} {below : List Frame} {meth : Method} {c : Code} {D : va_G} {cy : Nat → ClassId} {A : Nat → Prop} {L : Nat} {xs : Nat → Int32} {tPR tAM tAH tAF : Nat} (B : LB p m c s b L xs D cy A tPR tAM tAH tAF) (hL : L < 2 ^ 30) (N : Nat) (hN : Big N) {hsf hst hsq hre hrr hrs hmo hmW hmP hmS hmE hmI hmO hmT hmK hmF hmH hmM hmD hmR hmB : Nat} {sQ : Nat → Option Nat} {ad : Nat → FAd} (hsQ : ∀ j, j < 8 → sQ j = some (ad j).1) (hend : ∀ (H : Heap) (locs : List Loc) (ls : Array Slot), va_S A s.heap H locs → GL p l e s m b below meth c H locs (F0 m 1302 ls [])) {i : Nat} (hiL : i ≤ L) (hg : i + 10 ≤ L → LAt p l e s m b below meth c D cy A hsf hst hsq hre hrr hrs hmo hmW hmP hmS hmE hmI hmO hmT hmK hmF hmH hmM hmD hmR hmB sQ ad (i + 10) 18) : LAt p l e s m b below meth c D cy A hsf hst hsq hre hrr hrs hmo hmW hmP hmS hmE hmI hmO hmT hmK hmF hmH hmM hmD hmR hmB sQ ad i 18 := by
  intro k n fd sT eN eR eS mW mP mS mE mI mO mT mK mF mH mM mD mR mB hI H locs ls hP hD hS hl
  have B0 := B
  obtain ⟨hx, hb, hml, hown, hts, hB, hX, hbl, hbA, hA, hZ0, hZ5⟩ := B0
  refine lv_iload_n hx hb dL_law_18 rfl (lv_at hl 3 rfl) ?_
  refine lv_aload_n hx hb dL_law_19 rfl (lv_at hl 0 rfl) ?_
  refine va_slen hx hb hX hbl hbA hS dL_law_20 ?_
  refine lv_bipush (v := (10 : Int32)) hx hb dL_law_21 (by decide) ?_
  refine lv_isub hx hb dL_law_23 ?_
  refine lv_icmp_gt (tgt := 1302) hx hb dL_law_24 (by decide) (fun h => hend H locs ls hS) (fun h => ?_)
  have hi10 : i + 10 ≤ L := by
    apply Nat.le_of_not_lt
    intro q
    apply h
    show nI L - nI 10 < nI i
    rw [Int32.lt_iff_toInt_lt, pk_sub_toInt (by omega) (by decide), nI_toInt (by omega)]
    omega
  have hin := hi_of hi10 hL
  have hn := st_next B (hg hi10)
  refine lv_aload_n hx hb dL_law_27 rfl (lv_at hl 0 rfl) ?_
  refine lv_iload_n hx hb dL_law_28 rfl (lv_at hl 3 rfl) ?_
  refine va_sld hx hb hX hbl hbA hS (vp_in_nI (by omega) (by omega)) dL_law_29 ?_
  refine lv_bipush (v := (31 : Int32)) hx hb dL_law_30 (by decide) ?_
  refine lv_iand hx hb dL_law_32 ?_
  obtain ⟨j, hj, e⟩ := pk_andE (xs (nI i).toNatClampNeg) (m := 31) 5 (by decide +kernel)
  rw [e]
  by_cases hj17 : j < 17
  · have hc : j = 0 ∨ j = 1 ∨ j = 2 ∨ j = 3 ∨ j = 4 ∨ j = 5 ∨ j = 6 ∨ j = 7 ∨ j = 8 ∨ j = 9 ∨ j = 10 ∨ j = 11 ∨ j = 12 ∨ j = 13 ∨ j = 14 ∨ j = 15 ∨ j = 16 := by omega
    rcases hc with rfl | rfl | rfl | rfl | rfl | rfl | rfl | rfl | rfl | rfl | rfl | rfl | rfl | rfl | rfl | rfl | rfl
    · exact lv_tableIn (off := 83) (tgt := 116) hx hb dL_law_33 (by decide +kernel) (by decide +kernel) (by decide +kernel) (by decide) (st_0 B N hN hsQ hin hn k n fd sT eN eR eS mW mP mS mE mI mO mT mK mF mH mM mD mR mB hI H locs ls hP hD hS hl)
    · exact lv_tableIn (off := 286) (tgt := 319) hx hb dL_law_33 (by decide +kernel) (by decide +kernel) (by decide +kernel) (by decide) (st_1 B N hN hsQ hin hn k n fd sT eN eR eS mW mP mS mE mI mO mT mK mF mH mM mD mR mB hI H locs ls hP hD hS hl)
    · exact lv_tableIn (off := 299) (tgt := 332) hx hb dL_law_33 (by decide +kernel) (by decide +kernel) (by decide +kernel) (by decide) (st_2 B N hN hsQ hin hn k n fd sT eN eR eS mW mP mS mE mI mO mT mK mF mH mM mD mR mB hI H locs ls hP hD hS hl)
    · exact lv_tableIn (off := 362) (tgt := 395) hx hb dL_law_33 (by decide +kernel) (by decide +kernel) (by decide +kernel) (by decide) (st_3 B N hN hsQ hin hn k n fd sT eN eR eS mW mP mS mE mI mO mT mK mF mH mM mD mR mB hI H locs ls hP hD hS hl)
    · exact lv_tableIn (off := 385) (tgt := 418) hx hb dL_law_33 (by decide +kernel) (by decide +kernel) (by decide +kernel) (by decide) (st_4 B N hN hsQ hin hn k n fd sT eN eR eS mW mP mS mE mI mO mT mK mF mH mM mD mR mB hI H locs ls hP hD hS hl)
    · exact lv_tableIn (off := 408) (tgt := 441) hx hb dL_law_33 (by decide +kernel) (by decide +kernel) (by decide +kernel) (by decide) (st_5 B N hN hsQ hin hn k n fd sT eN eR eS mW mP mS mE mI mO mT mK mF mH mM mD mR mB hI H locs ls hP hD hS hl)
    · exact lv_tableIn (off := 431) (tgt := 464) hx hb dL_law_33 (by decide +kernel) (by decide +kernel) (by decide +kernel) (by decide) (st_6 B N hN hsQ hin hn k n fd sT eN eR eS mW mP mS mE mI mO mT mK mF mH mM mD mR mB hI H locs ls hP hD hS hl)
    · exact lv_tableIn (off := 475) (tgt := 508) hx hb dL_law_33 (by decide +kernel) (by decide +kernel) (by decide +kernel) (by decide) (st_7 B N hN hsQ hin hn k n fd sT eN eR eS mW mP mS mE mI mO mT mK mF mH mM mD mR mB hI H locs ls hP hD hS hl)
    · exact lv_tableIn (off := 623) (tgt := 656) hx hb dL_law_33 (by decide +kernel) (by decide +kernel) (by decide +kernel) (by decide) (st_8 B N hN hsQ hin hn k n fd sT eN eR eS mW mP mS mE mI mO mT mK mF mH mM mD mR mB hI H locs ls hP hD hS hl)
    · exact lv_tableIn (off := 727) (tgt := 760) hx hb dL_law_33 (by decide +kernel) (by decide +kernel) (by decide +kernel) (by decide) (st_9 B N hN hsQ hin hn k n fd sT eN eR eS mW mP mS mE mI mO mT mK mF mH mM mD mR mB hI H locs ls hP hD hS hl)
    · exact lv_tableIn (off := 843) (tgt := 876) hx hb dL_law_33 (by decide +kernel) (by decide +kernel) (by decide +kernel) (by decide) (st_10 B N hN hsQ hin hn k n fd sT eN eR eS mW mP mS mE mI mO mT mK mF mH mM mD mR mB hI H locs ls hP hD hS hl)
    · exact lv_tableIn (off := 947) (tgt := 980) hx hb dL_law_33 (by decide +kernel) (by decide +kernel) (by decide +kernel) (by decide) (st_11 B N hN hsQ hin hn k n fd sT eN eR eS mW mP mS mE mI mO mT mK mF mH mM mD mR mB hI H locs ls hP hD hS hl)
    · exact lv_tableIn (off := 970) (tgt := 1003) hx hb dL_law_33 (by decide +kernel) (by decide +kernel) (by decide +kernel) (by decide) (st_12 B N hN hsQ hin hn k n fd sT eN eR eS mW mP mS mE mI mO mT mK mF mH mM mD mR mB hI H locs ls hP hD hS hl)
    · exact lv_tableIn (off := 1014) (tgt := 1047) hx hb dL_law_33 (by decide +kernel) (by decide +kernel) (by decide +kernel) (by decide) (st_13 B N hN hsQ hin hn k n fd sT eN eR eS mW mP mS mE mI mO mT mK mF mH mM mD mR mB hI H locs ls hP hD hS hl)
    · exact lv_tableIn (off := 1038) (tgt := 1071) hx hb dL_law_33 (by decide +kernel) (by decide +kernel) (by decide +kernel) (by decide) (st_14 B N hN hsQ hin hn k n fd sT eN eR eS mW mP mS mE mI mO mT mK mF mH mM mD mR mB hI H locs ls hP hD hS hl)
    · exact lv_tableIn (off := 1071) (tgt := 1104) hx hb dL_law_33 (by decide +kernel) (by decide +kernel) (by decide +kernel) (by decide) (st_15 B N hN hsQ hin hn k n fd sT eN eR eS mW mP mS mE mI mO mT mK mF mH mM mD mR mB hI H locs ls hP hD hS hl)
    · exact lv_tableIn (off := 1115) (tgt := 1148) hx hb dL_law_33 (by decide +kernel) (by decide +kernel) (by decide +kernel) (by decide) (st_16 B N hN hsQ hin hn k n fd sT eN eR eS mW mP mS mE mI mO mT mK mF mH mM mD mR mB hI H locs ls hP hD hS hl)
  · exact lv_tableOut (tgt := 1296) hx hb dL_law_33 (Or.inr (by rw [nI_toInt (by omega)]; omega)) (by decide) (hn k n fd sT eN eR eS mW mP mS mE mI mO mT mK mF mH mM mD mR mB hI H locs ls hP hD hS hl)
theorem st_loop {p : Program} {l : Launch} {e : Env} {s : State} {m : MethodId} {b : Nat} {below : List Frame} {meth : Method} {c : Code} {D : va_G} {cy : Nat → ClassId} {A : Nat → Prop} {L : Nat} {xs : Nat → Int32} {tPR tAM tAH tAF : Nat} (B : LB p m c s b L xs D cy A tPR tAM tAH tAF) (hL : L < 2 ^ 30) (N : Nat) (hN : Big N) {hsf hst hsq hre hrr hrs hmo hmW hmP hmS hmE hmI hmO hmT hmK hmF hmH hmM hmD hmR hmB : Nat} {sQ : Nat → Option Nat} {ad : Nat → FAd} (hsQ : ∀ j, j < 8 → sQ j = some (ad j).1) (hend : ∀ (H : Heap) (locs : List Loc) (ls : Array Slot), va_S A s.heap H locs → GL p l e s m b below meth c H locs (F0 m 1302 ls [])) : ∀ (r i : Nat), L ≤ i + r → i ≤ L → LAt p l e s m b below meth c D cy A hsf hst hsq hre hrr hrs hmo hmW hmP hmS hmE hmI hmO hmT hmK hmF hmH hmM hmD hmR hmB sQ ad i 18 := by
  intro r
  induction r with
  | zero => exact fun i h1 h2 => st_one B hL N hN hsQ hend h2 (fun h3 => by omega)
  | succ r ih => exact fun i h1 h2 => st_one B hL N hN hsQ hend h2 (fun h3 => ih (i + 10) (by omega) h3)

theorem sw_0 : (Cond.classLink RL 7 RX5 : Cond) ∈ wsL_law := by decide +kernel
theorem sw_1 : (Cond.initialized RX5 : Cond) ∈ wsL_law := by decide +kernel
theorem sw_2 : (Cond.methodLink RL 9 yX5_init : Cond) ∈ wsL_law := by decide +kernel
theorem sw_3 : (Cond.instanceMethod yX5_init : Cond) ∈ wsL_law := by decide +kernel
theorem sw_4 : (Cond.classLink RL 10 RX6 : Cond) ∈ wsL_law := by decide +kernel
theorem sw_5 : (Cond.initialized RX6 : Cond) ∈ wsL_law := by decide +kernel
theorem sw_6 : (Cond.methodLink RL 12 yX6_init : Cond) ∈ wsL_law := by decide +kernel
theorem sw_7 : (Cond.instanceMethod yX6_init : Cond) ∈ wsL_law := by decide +kernel
theorem st_pm (cy : Nat → ClassId) (hsf hst hsq hre hrr hrs hmo hmW hmP hmS hmE hmI hmO hmT hmK hmF hmH hmM hmD hmR hmB : Nat) (sQ : Nat → Option Nat) : (oX6 cy hmo hmW hmP hmS hmE hmI hmO hmT hmK hmF hmH hmM hmD hmR hmB ++ bX5 cy hsf hst hsq hre hrr hrs (fun _ => 0) 0 sQ 0 (fun _ => 0) (fun _ => 0) 0).Perm (w21 cy hsf hst hsq hre hrr hrs hmo hmW hmP hmS hmE hmI hmO hmT hmK hmF hmH hmM hmD hmR hmB 0 0 (fun _ => 0) sQ 0 (fun _ => 0) (fun _ => 0) 0 0 (fun _ => 0) (fun _ => 0) (fun _ => 0) (fun _ => 0) (fun _ => 0) (fun _ => 0) (fun _ => 0) (fun _ => 0) (fun _ => 0) (fun _ => 0) (fun _ => 0) (fun _ => 0) (fun _ => 0) (fun _ => 0)) := pm 21 (0, .inr (0, [])) [15, 16, 17, 18, 19, 20, 0, 1, 2, 3, 4, 5, 6, 7, 8, 9, 10, 11, 12, 13, 14] (by decide +kernel) rfl rfl
set_option maxHeartbeats 4000000 in
set_option maxRecDepth 100000 in
theorem whole_start {p : Program} {e : Env} {s : State} {m : MethodId} {below : List Frame} {meth : Method} {c : Code} (l : Launch) {b L : Nat} {xs : Nat → Int32} (hL : L ≤ 5120) (C0 : lw_At p s m meth c b L xs) : W p l e room_1 s m #[Value.ref b] below meth c s.heap [] 0 0 (lw_Z below #[Value.ref b] s) (entryFrame m ([Value.ref b] : List Value).toArray 4) := by
  obtain ⟨D, cy, tPR, tAM, tAH, tAF, B, hO⟩ := st_base C0
  have hend := st_end (l := l) (e := e) (below := below) C0
  have B0 := B
  obtain ⟨hx, hb, hml, hown, hts, hB, hX, hbl, hbA, hA, hZ0, hZ5⟩ := B0
  have hS : va_S (fun q : Nat => s.heap.size ≤ q) s.heap s.heap [] := va_S.rf
  have hP : va_P D vwCl [] s.heap := fun k q h => by simp at h
  have hD : va_D (fun q : Nat => s.heap.size ≤ q) [] := ⟨fun i j p q h => by simp at h, fun k q h => by simp at h⟩
  have hl := lv_entry ([.ref b]) (n := 4) (Nat.le_of_ble_eq_true rfl)
  rw [lg_entry_eq]
  generalize (lg_sl ([.ref b]) ++ List.replicate (4 - (lg_sl ([.ref b])).length) Slot.unset).toArray = ls at hl ⊢
  have hl : lv_has ls 4 [(0, .ref b)] := hl
  refine va_new (ci := 4) (fs := [.null, .int 0, .null, .int 0, .null]) (C := RX5) (T := TX5) (N := 5) hx hb hts (fun w h => List.mem_append_left _ (List.mem_append_left _ (List.mem_append_left _ (List.mem_append_left _ (List.mem_append_left _ (List.mem_append_left _ (List.mem_append_right _ h))))))) tyX5 tyX5_ok hown (hts _ sw_0) (hts _ mI_X5) (hts _ sw_1) hB.1 hP hD hS hA rfl (fun j hj => by rcases (show j = 0 ∨ j = 1 ∨ j = 2 ∨ j = 3 ∨ j = 4 by omega) with rfl | rfl | rfl | rfl | rfl <;> rfl) (Nat.le_of_ble_eq_true rfl) (Nat.le_of_ble_eq_true rfl) dL_law_0 (fun hsf H hP hD hS => ?_)
  have hP : va_P D vwCl (iX5 hsf ++ []) H := hP
  have hD : va_D (fun q : Nat => s.heap.size ≤ q) (iX5 hsf ++ []) := hD
  refine W.widen (k := 1) (n := 5) (by omega) (by omega) ?_
  refine lv_dup hx hb dL_law_3 rfl ?_
  have hFc := va_freeA hD hS hA
  refine va_callv (va_runI (As := []) (rest := [.ref hsf]) ⟨hx, hb, hml, hown, hts⟩ (ctX5_init l D cy hsf H.size) (cwI 0 hts gL_law_X5_init rfl rfl rfl (hts _ sw_1) (hts _ sw_2) (hts _ sw_3) rfl (by decide +kernel) ⟨Nat.le_of_ble_eq_true rfl, Nat.le_of_ble_eq_true rfl⟩) ⟨fun a U g mk q => ⟨q.1, ⟨q.2.1.1, q.2.1.2.1, q.2.1.2.2.1, q.2.1.2.2.2.calling⟩, q.2.2⟩, fun U hU hW => ⟨rfl, ⟨by rw [hU], by rw [hU]; exact hP.left, hD.left.weaken (fun _ _ _ _ => trivial), hB.moved hW⟩, va_AO.moved hW.alike hO⟩⟩ rfl rfl hl.1 rfl (lv_room (Nat.le_of_ble_eq_true rfl)) dL_law_4 ⟨Nat.le_of_ble_eq_true rfl, Nat.le_of_ble_eq_true rfl⟩) hS (fun q _ h => hFc q h) hFc (fun u t H1 locs ht hvm hsQ hB1 hz1 hk1 hS => ?_)
  obtain ⟨⟨hst, hsq, hre, hrr, hrs⟩, ad, sQ⟩ := u
  obtain ⟨hP1, hD1⟩ := hB1
  rw [ht] at hP1
  obtain ⟨hP, hD⟩ := va_joinA hP hD hk1 hFc hP1 hD1
  clear hP1 hD1 hk1 hFc hz1 hvm ht t
  rw [List.append_nil] at hP hD
  have hsQ : ∀ j, j < 8 → sQ j = some (ad j).1 := hsQ
  refine W.widen (k := 46) (n := 1608) (by omega) (by omega) ?_
  refine lv_astore_n (lv' := [(1, .ref hsf), (0, .ref b)]) hx hb dL_law_7 rfl hl (by decide) rfl (fun ls hl => ?_)
  refine va_new (ci := 5) (fs := [.int 0, .null, .null, .null, .null, .null, .null, .null, .int 0, .null, .null, .null, .null, .null, .null, .null]) (C := RX6) (T := TX6) (N := 16) hx hb hts (fun w h => List.mem_append_left _ (List.mem_append_left _ (List.mem_append_left _ (List.mem_append_left _ (List.mem_append_left _ (List.mem_append_right _ h)))))) tyX6 tyX6_ok hown (hts _ sw_4) (hts _ mI_X6) (hts _ sw_5) hB.1 hP hD hS hA rfl (fun j hj => by rcases (show j = 0 ∨ j = 1 ∨ j = 2 ∨ j = 3 ∨ j = 4 ∨ j = 5 ∨ j = 6 ∨ j = 7 ∨ j = 8 ∨ j = 9 ∨ j = 10 ∨ j = 11 ∨ j = 12 ∨ j = 13 ∨ j = 14 ∨ j = 15 by omega) with rfl | rfl | rfl | rfl | rfl | rfl | rfl | rfl | rfl | rfl | rfl | rfl | rfl | rfl | rfl | rfl <;> rfl) (Nat.le_of_ble_eq_true rfl) (Nat.le_of_ble_eq_true rfl) dL_law_8 (fun hmo H hP hD hS => ?_)
  replace hP := hP.perm List.perm_append_comm
  replace hD := hD.perm List.perm_append_comm
  have hP : va_P D vwCl (iX6 hmo ++ _) H := hP
  have hD : va_D (fun q : Nat => s.heap.size ≤ q) (iX6 hmo ++ _) := hD
  refine W.widen (k := 47) (n := 1624) (by omega) (by omega) ?_
  refine lv_dup hx hb dL_law_11 rfl ?_
  have hFc := va_freeA hD hS hA
  refine va_callv (va_runI (As := []) (rest := [.ref hmo]) ⟨hx, hb, hml, hown, hts⟩ (ctX6_init l D cy hmo H.size) (cwI 0 hts gL_law_X6_init rfl rfl rfl (hts _ sw_5) (hts _ sw_6) (hts _ sw_7) rfl (by decide +kernel) ⟨Nat.le_of_ble_eq_true rfl, Nat.le_of_ble_eq_true rfl⟩) (preS_wr [.ref hmo] hP.left hD.left hB) rfl rfl hl.1 rfl (lv_room (Nat.le_of_ble_eq_true rfl)) dL_law_12 ⟨Nat.le_of_ble_eq_true rfl, Nat.le_of_ble_eq_true rfl⟩) hS (fun q _ h => hFc q h) hFc (fun u t H1 locs ht hvm _ hB1 hz1 hk1 hS => ?_)
  obtain ⟨hmW, hmP, hmS, hmE, hmI, hmO, hmT, hmK, hmF, hmH, hmM, hmD, hmR, hmB⟩ := u
  obtain ⟨hP1, hD1⟩ := hB1
  rw [ht] at hP1
  obtain ⟨hP, hD⟩ := va_joinA hP hD hk1 hFc hP1 hD1
  clear hP1 hD1 hk1 hFc hz1 hvm ht t
  refine lv_astore_n (lv' := [(2, .ref hmo), (1, .ref hsf), (0, .ref b)]) hx hb dL_law_15 rfl hl (by decide) rfl (fun ls hl => ?_)
  refine lv_iconst (v := (0 : Int32)) hx hb dL_law_16 (by decide) ?_
  refine lv_istore_n (lv' := [(3, .int 0), (2, .ref hmo), (1, .ref hsf), (0, .ref b)]) hx hb dL_law_17 rfl hl (by decide) rfl (fun ls hl => ?_)
  refine W.widen (k := 600000) (n := 7302250) (by decide) (by decide) ?_
  have hpm : List.Perm (α := Nat × va_E) (oX6 cy hmo hmW hmP hmS hmE hmI hmO hmT hmK hmF hmH hmM hmD hmR hmB ++ (bX5 cy hsf hst hsq hre hrr hrs (fun _ => 0) 0 sQ 0 (fun _ => 0) (fun _ => 0) 0 ++ fl cy ad (fun _ => fd0) 8)) (w21 cy hsf hst hsq hre hrr hrs hmo hmW hmP hmS hmE hmI hmO hmT hmK hmF hmH hmM hmD hmR hmB (nI 0) (nI 0) (fun _ => 0) sQ 0 (fun _ => 0) (fun _ => 0) (nI 0) (nI 0) (fun _ => 0) (fun _ => 0) (fun _ => 0) (fun _ => 0) (fun _ => 0) (fun _ => 0) (fun _ => 0) (fun _ => 0) (fun _ => 0) (fun _ => 0) (fun _ => 0) (fun _ => 0) (fun _ => 0) (fun _ => 0) ++ fl cy ad (fun _ => fd0) 8) := by
    rw [← List.append_assoc, nI_0]
    exact (st_pm cy hsf hst hsq hre hrr hrs hmo hmW hmP hmS hmE hmI hmO hmT hmK hmF hmH hmM hmD hmR hmB sQ).append_right _
  have hlo := st_loop B (by omega) (2 ^ 36) (Nat.le_refl _) (l := l) (e := e) (below := below) (meth := meth) (hsf := hsf) (hst := hst) (hsq := hsq) (hre := hre) (hrr := hrr) (hrs := hrs) (hmo := hmo) (hmW := hmW) (hmP := hmP) (hmS := hmS) (hmE := hmE) (hmI := hmI) (hmO := hmO) (hmT := hmT) (hmK := hmK) (hmF := hmF) (hmH := hmH) (hmM := hmM) (hmD := hmD) (hmR := hmR) (hmB := hmB) (sQ := sQ) (ad := ad) hsQ hend L 0 (by omega) (Nat.zero_le _)
  refine hlo 0 0 (fun _ => fd0) (fun _ => 0) 0 (fun _ => 0) (fun _ => 0) (fun _ => 0) (fun _ => 0) (fun _ => 0) (fun _ => 0) (fun _ => 0) (fun _ => 0) (fun _ => 0) (fun _ => 0) (fun _ => 0) (fun _ => 0) (fun _ => 0) (fun _ => 0) (fun _ => 0) (fun _ => 0) ⟨by omega, by omega, fun j hj => by omega, fun f hf => by omega, fun f _ => Or.inl rfl, fun f _ => Or.inl rfl, fun f _ _ h => by omega⟩ H1 locs ls (hP.perm hpm) (hD.perm hpm) hS ?_
  rw [nI_0]
  exact lv_sub hl [3, 2, 1, 0] rfl

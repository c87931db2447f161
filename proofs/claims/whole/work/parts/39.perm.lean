/-! ===== worlds up to order ===== -/
theorem va_P_mem {D : va_G} {cl : List vw_C} {ws : va_W} {H : Heap} : va_P D cl ws H ↔ ∀ q ∈ ws, va_at D cl q H := by
  constructor
  · intro h q hq
    obtain ⟨i, hi⟩ := List.mem_iff_getElem?.mp hq
    exact h i q hi
  · intro h k q hk
    exact h q (List.mem_iff_getElem?.mpr ⟨k, hk⟩)
theorem va_D_iff {A : Nat → Prop} {ws : va_W} : va_D A ws ↔ (ws.map (fun q => q.1)).Nodup ∧ ∀ q ∈ ws, A q.1 := by
  constructor
  · intro h
    refine ⟨List.pairwise_iff_getElem.mpr (fun i j hi hj hij => ?_), fun q hq => ?_⟩
    · rw [List.length_map] at hi hj
      rw [List.getElem_map, List.getElem_map]
      intro he
      have := h.1 i j ws[i] ws[j] (List.getElem?_eq_getElem hi) (List.getElem?_eq_getElem hj) he
      omega
    · obtain ⟨i, hi⟩ := List.mem_iff_getElem?.mp hq
      exact h.2 i q hi
  · intro h
    refine ⟨fun i j p q hi hj he => ?_, fun k q hk => h.2 q (List.mem_iff_getElem?.mpr ⟨k, hk⟩)⟩
    have hil := (List.getElem?_eq_some_iff.mp hi).1
    have h1 : (ws.map (fun q => q.1))[i]? = some p.1 := by rw [List.getElem?_map, hi]; rfl
    have h2 : (ws.map (fun q => q.1))[j]? = some q.1 := by rw [List.getElem?_map, hj]; rfl
    rw [← he, ← h1] at h2
    exact (List.getElem?_inj (by rw [List.length_map]; exact hil) h.1).mp h2.symm
theorem va_P.perm {D : va_G} {cl : List vw_C} {ws ws' : va_W} {H : Heap} (h : va_P D cl ws H) (hp : ws.Perm ws') : va_P D cl ws' H := va_P_mem.mpr (fun q hq => va_P_mem.mp h q (hp.mem_iff.mpr hq))
theorem va_D.perm {A : Nat → Prop} {ws ws' : va_W} (h : va_D A ws) (hp : ws.Perm ws') : va_D A ws' := by
  obtain ⟨h1, h2⟩ := va_D_iff.mp h
  exact va_D_iff.mpr ⟨(hp.map _).nodup h1, fun q hq => h2 q (hp.mem_iff.mpr hq)⟩
theorem va_P.left {D : va_G} {cl : List vw_C} {w1 w2 : va_W} {H : Heap} (h : va_P D cl (w1 ++ w2) H) : va_P D cl w1 H := va_P_mem.mpr (fun q hq => va_P_mem.mp h q (List.mem_append_left _ hq))
theorem va_P.right {D : va_G} {cl : List vw_C} {w1 w2 : va_W} {H : Heap} (h : va_P D cl (w1 ++ w2) H) : va_P D cl w2 H := va_P_mem.mpr (fun q hq => va_P_mem.mp h q (List.mem_append_right _ hq))
theorem va_D.left {A : Nat → Prop} {w1 w2 : va_W} (h : va_D A (w1 ++ w2)) : va_D A w1 := by
  obtain ⟨h1, h2⟩ := va_D_iff.mp h
  rw [List.map_append] at h1
  exact va_D_iff.mpr ⟨(List.nodup_append.mp h1).1, fun q hq => h2 q (List.mem_append_left _ hq)⟩
/-- behind a call, with the callee's cells in front: the rest stays -/
theorem va_joinA {A0 : Nat → Prop} {D : va_G} {cl : List vw_C} {wc wr w1 : va_W} {H H1 : Heap} (hP : va_P D cl (wc ++ wr) H) (hD : va_D A0 (wc ++ wr)) (hk : ∀ q : Nat, q < H.size → ¬ va_A wc H.size q → H1[q]? = H[q]?) (hF : ∀ q, va_A wc H.size q → A0 q) (hP1 : va_P D cl w1 H1) (hD1 : va_D (va_A wc H.size) w1) : va_P D cl (w1 ++ wr) H1 ∧ va_D A0 (w1 ++ wr) := by
  have apart : ∀ q ∈ wr, q.1 < H.size ∧ ¬ va_A wc H.size q.1 := by
    intro q hq
    have hl := (va_P_mem.mp hP.right q hq).lt
    refine ⟨hl, fun h => ?_⟩
    rcases h with ⟨k, e, h⟩ | h
    · obtain ⟨h1, _⟩ := va_D_iff.mp hD
      rw [List.map_append] at h1
      exact (List.nodup_append.mp h1).2.2 q.1 (List.mem_map.mpr ⟨(q.1, e), List.mem_iff_getElem?.mpr ⟨k, h⟩, rfl⟩) q.1 (List.mem_map.mpr ⟨q, hq, rfl⟩) rfl
    · omega
  refine ⟨va_P_mem.mpr (fun q hq => ?_), va_D_iff.mpr ⟨?_, fun q hq => ?_⟩⟩
  · rcases List.mem_append.mp hq with h | h
    · exact va_P_mem.mp hP1 q h
    · exact (va_P_mem.mp hP.right q h).kept (hk q.1 (apart q h).1 (apart q h).2)
  · rw [List.map_append]
    obtain ⟨h1, _⟩ := va_D_iff.mp hD
    rw [List.map_append] at h1
    obtain ⟨g1, g2⟩ := va_D_iff.mp hD1
    refine List.nodup_append.mpr ⟨g1, (List.nodup_append.mp h1).2.1, fun a ha b hb he => ?_⟩
    obtain ⟨q, hq, rfl⟩ := List.mem_map.mp ha
    obtain ⟨r, hr, rfl⟩ := List.mem_map.mp hb
    exact (apart r hr).2 (by rw [← he]; exact g2 q hq)
  · rcases List.mem_append.mp hq with h | h
    · exact hF q.1 ((va_D_iff.mp hD1).2 q h)
    · exact (va_D_iff.mp hD).2 q (List.mem_append_right _ h)
theorem va_freeA {A0 : Nat → Prop} {wc wr : va_W} {H0 H : Heap} {locs : List Loc} (hD : va_D A0 (wc ++ wr)) (hS : va_S A0 H0 H locs) (hA : ∀ q, H0.size ≤ q → A0 q) : ∀ q, va_A wc H.size q → A0 q := by
  intro q h
  rcases h with ⟨k, e, h⟩ | h
  · exact (va_D_iff.mp hD).2 (q, e) (List.mem_append_left _ (List.mem_iff_getElem?.mpr ⟨k, h⟩))
  · exact hA q (Nat.le_trans hS.1 h)
/-- a place in explicit lists -/
theorem pm {α : Type} {ws ws' : List α} (n : Nat) (d : α) (is : List Nat) (h : (List.range n).Perm is) (hw : (List.range n).map (fun i => ws.getD i d) = ws) (hv : is.map (fun i => ws.getD i d) = ws') : ws.Perm ws' := by
  rw [← hw, ← hv]
  exact h.map _
section CALLA
variable {p : Program} {l : Launch} {e : Env} {R : Room} {s : State} {m : MethodId} {args : Array Value} {below : List Frame} {meth : Method} {c : Code} {H : Heap} {locs : List Loc} {cells slots : Nat} {Q : State → Prop}
variable {pc : Nat} {ls : Array Slot} {rest st0 : List Value} {a : Array Value} {H0 : Heap} {D : va_G} {wc wr w1 : va_W} {A : Nat → Prop}
theorem ca_i {r0 : Int32} (hr : va_Run p l e R s m args below meth c H locs cells slots 0 0 (F0 m pc ls st0) rest (Qwi D (va_A wc H.size) w1 r0 a) (va_A wc H.size)) (hP : va_P D vwCl (wc ++ wr) H) (hD : va_D A (wc ++ wr)) (hS : va_S A H0 H locs) (hA : ∀ q, H0.size ≤ q → A q)
    (kk : ∀ (H1 : Heap) (locs1 : List Loc), va_P D vwCl (w1 ++ wr) H1 → va_D A (w1 ++ wr) → va_S A H0 H1 locs1 → W p l e R s m args below meth c H1 locs1 cells slots Q (F0 m (pc + 3) ls (.int r0 :: rest))) : W p l e R s m args below meth c H locs cells slots Q (F0 m pc ls st0) := by
  have hFc := va_freeA hD hS hA
  refine va_calli hr hS (fun q _ h => hFc q h) hFc (fun r u t H1 locs1 ht hvm hw hB hz1 hk1 hS1 => ?_)
  obtain ⟨hP1, hD1⟩ := hB
  rw [ht] at hP1
  obtain ⟨hP2, hD2⟩ := va_joinA hP hD hk1 hFc hP1 hD1
  rw [show r = r0 from hw]
  exact kk H1 locs1 hP2 hD2 hS1
theorem ca_l {r0 : Int64} (hr : va_Run p l e R s m args below meth c H locs cells slots 0 0 (F0 m pc ls st0) rest (Qwl D (va_A wc H.size) w1 r0 a) (va_A wc H.size)) (hP : va_P D vwCl (wc ++ wr) H) (hD : va_D A (wc ++ wr)) (hS : va_S A H0 H locs) (hA : ∀ q, H0.size ≤ q → A q)
    (kk : ∀ (H1 : Heap) (locs1 : List Loc), va_P D vwCl (w1 ++ wr) H1 → va_D A (w1 ++ wr) → va_S A H0 H1 locs1 → W p l e R s m args below meth c H1 locs1 cells slots Q (F0 m (pc + 3) ls (.long r0 :: rest))) : W p l e R s m args below meth c H locs cells slots Q (F0 m pc ls st0) := by
  have hFc := va_freeA hD hS hA
  refine va_calll hr hS (fun q _ h => hFc q h) hFc (fun r u t H1 locs1 ht hvm hw hB hz1 hk1 hS1 => ?_)
  obtain ⟨hP1, hD1⟩ := hB
  rw [ht] at hP1
  obtain ⟨hP2, hD2⟩ := va_joinA hP hD hk1 hFc hP1 hD1
  rw [show r = r0 from hw]
  exact kk H1 locs1 hP2 hD2 hS1
theorem ca_v {S : Type} {B : S → va_W} {mc ms : Nat} (hr : va_Run p l e R s m args below meth c H locs cells slots mc ms (F0 m pc ls st0) rest (va_Qv (S := S) (fun _ => True) (fun u => Qw D (va_A wc H.size) (B u)) (va_A wc H.size) a) (va_A wc H.size)) (hP : va_P D vwCl (wc ++ wr) H) (hD : va_D A (wc ++ wr)) (hS : va_S A H0 H locs) (hA : ∀ q, H0.size ≤ q → A q)
    (kk : ∀ (u : S) (H1 : Heap) (locs1 : List Loc), va_P D vwCl (B u ++ wr) H1 → va_D A (B u ++ wr) → va_S A H0 H1 locs1 → W p l e R s m args below meth c H1 locs1 (cells + mc) (slots + ms) Q (F0 m (pc + 3) ls rest)) : W p l e R s m args below meth c H locs cells slots Q (F0 m pc ls st0) := by
  have hFc := va_freeA hD hS hA
  refine va_callv hr hS (fun q _ h => hFc q h) hFc (fun u t H1 locs1 ht hvm hw hB hz1 hk1 hS1 => ?_)
  obtain ⟨hP1, hD1⟩ := hB
  rw [ht] at hP1
  obtain ⟨hP2, hD2⟩ := va_joinA hP hD hk1 hFc hP1 hD1
  exact kk u H1 locs1 hP2 hD2 hS1
end CALLA
/-! the eight forms of a class object -/
abbrev FAd : Type := Nat × Nat × Nat × Nat × Nat
abbrev FCo : Type := (Int32 × Int64 × Int64 × Int64 × Int32 × Int32) × (Int32 × Int64 × Int64 × (Nat → Int64) × (Nat → Int32)) × (Int32 × Int32 × Int32 × Int64)
def fcs (cy : Nat → ClassId) (a : FAd) (d : FCo) : va_W := [(a.1, .inr (1, [.int d.1.1, .long d.1.2.1, .long d.1.2.2.1, .long d.1.2.2.2.1, .int d.1.2.2.2.2.1, .int d.1.2.2.2.2.2, .ref a.2.1, .ref a.2.2.2.2])), (a.2.1, .inr (0, [.ref a.2.2.1, .ref a.2.2.2.1, .int d.2.1.1, .long d.2.1.2.1, .long d.2.1.2.2.1])), (a.2.2.1, .inl (cy 1, 9, .inr (.inl d.2.1.2.2.2.1))), (a.2.2.2.1, .inl (cy 0, 9, .inl d.2.1.2.2.2.2)), (a.2.2.2.2, .inr (3, [.int d.2.2.1, .int d.2.2.2.1, .int d.2.2.2.2.1, .long d.2.2.2.2.2]))]
def fl (cy : Nat → ClassId) (ad : Nat → FAd) (fd : Nat → FCo) : Nat → va_W
  | 0 => []
  | n + 1 => fl cy ad fd n ++ fcs cy (ad n) (fd n)
def fr (cy : Nat → ClassId) (ad : Nat → FAd) (fd : Nat → FCo) (f : Nat) : Nat → va_W
  | 0 => []
  | n + 1 => if n = f then fr cy ad fd f n else fr cy ad fd f n ++ fcs cy (ad n) (fd n)
theorem fr_le {cy : Nat → ClassId} {ad : Nat → FAd} {fd : Nat → FCo} {f : Nat} : ∀ n, n ≤ f → fr cy ad fd f n = fl cy ad fd n
  | 0, _ => rfl
  | n + 1, h => by
    show (if n = f then _ else _) = fl cy ad fd n ++ _
    rw [if_neg (by omega), fr_le n (by omega)]
theorem fl_pick {cy : Nat → ClassId} {ad : Nat → FAd} {fd : Nat → FCo} {f : Nat} : ∀ n, f < n → (fl cy ad fd n).Perm (fcs cy (ad f) (fd f) ++ fr cy ad fd f n)
  | 0, h => by omega
  | n + 1, h => by
    show (fl cy ad fd n ++ fcs cy (ad n) (fd n)).Perm (_ ++ (if n = f then _ else _))
    by_cases q : n = f
    · rw [if_pos q, fr_le n (by omega), q]
      exact List.perm_append_comm
    · rw [if_neg q, ← List.append_assoc]
      exact (fl_pick n (by omega)).append_right _
theorem fr_congr {cy : Nat → ClassId} {ad : Nat → FAd} {fd fd' : Nat → FCo} {f : Nat} (h : ∀ j, j ≠ f → fd' j = fd j) : ∀ n, fr cy ad fd' f n = fr cy ad fd f n
  | 0 => rfl
  | n + 1 => by
    show (if n = f then _ else _) = (if n = f then _ else _)
    rw [fr_congr h n]
    by_cases q : n = f
    · rw [if_pos q, if_pos q]
    · rw [if_neg q, if_neg q, h n q]
theorem fl_congr {cy : Nat → ClassId} {ad ad' : Nat → FAd} {fd : Nat → FCo} : ∀ n, (∀ j, j < n → ad' j = ad j) → fl cy ad' fd n = fl cy ad fd n
  | 0, _ => rfl
  | n + 1, h => by
    show fl cy ad' fd n ++ fcs cy (ad' n) (fd n) = fl cy ad fd n ++ fcs cy (ad n) (fd n)
    rw [fl_congr n (fun j hj => h j (by omega)), h n (by omega)]

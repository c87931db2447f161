/-! ===== how few bits: tables with open addressing ===== -/
theorem sub_len {l1 : List Nat} : ∀ {l2 : List Nat}, l1.Nodup → (∀ a ∈ l1, a ∈ l2) → l1.length ≤ l2.length := by
  induction l1 with
  | nil => intro l2 _ _; simp
  | cons a l1 ih =>
    intro l2 hn hs
    obtain ⟨ha, hn1⟩ := List.nodup_cons.mp hn
    have ha2 : a ∈ l2 := hs a (List.mem_cons_self)
    have hp := List.perm_cons_erase ha2
    have hlen : l2.length = (l2.erase a).length + 1 := by
      have := hp.length_eq
      simpa using this
    have := ih (l2 := l2.erase a) hn1 (by
      intro b hb
      have hb2 : b ∈ a :: l2.erase a := hp.mem_iff.mp (hs b (List.mem_cons_of_mem _ hb))
      rcases List.mem_cons.mp hb2 with e | e
      · subst e; exact absurd hb ha
      · exact e)
    simp; omega
def TB (M c : Nat) (key : Nat → Int64) (hh : Nat → Nat) (S : Nat → Prop) (t : Nat → Int64) : Prop :=
  (∀ p, p < M → t p ≠ 0 → ∃ s, S s ∧ t p = key s) ∧ (∀ s, S s → ∃ d, d < M ∧ t ((hh s + d) % M) = key s ∧ ∀ e, e < d → t ((hh s + e) % M) ≠ 0) ∧ ∃ L : List Nat, L.length ≤ c ∧ ∀ p, p < M → t p ≠ 0 → p ∈ L
theorem tb_0 {M : Nat} {key : Nat → Int64} {hh : Nat → Nat} {t : Nat → Int64} (h : ∀ p, p < M → t p = 0) : TB M 0 key hh (fun _ => False) t :=
  ⟨fun p hp hn => absurd (h p hp) hn, fun s hs => hs.elim, [], by simp, fun p hp hn => absurd (h p hp) hn⟩
def Stp2 (M : Nat) (t : Nat → Int64) (h : Nat) (k : Int64) (d : Nat) : Prop := (t ((h + d) % M) = 0 ∨ t ((h + d) % M) = k) ∧ ∀ e, e < d → t ((h + e) % M) ≠ 0 ∧ t ((h + e) % M) ≠ k
theorem tb_stop {M c : Nat} {key : Nat → Int64} {hh : Nat → Nat} {S : Nat → Prop} {t : Nat → Int64} (h : TB M c key hh S t) (hc : c < M) (h0 : Nat) (k : Int64) : ∃ d, d < M ∧ Stp2 M t h0 k d := by
  obtain ⟨-, -, L, hL, hin⟩ := h
  have hz : ∃ p, p < M ∧ t p = 0 := by
    apply Classical.byContradiction
    intro hn
    have := sub_len (l1 := List.range M) (l2 := L) List.nodup_range (fun p hp => hin p (List.mem_range.mp hp) (fun e => hn ⟨p, List.mem_range.mp hp, e⟩))
    rw [List.length_range] at this; omega
  obtain ⟨p, hp, e⟩ := hz
  have hm : h0 % M < M := Nat.mod_lt _ (by omega)
  have hpos : (h0 + (p + M - h0 % M) % M) % M = p := by
    rw [Nat.add_mod_mod]
    have e2 : h0 + (p + M - h0 % M) = p + M * (h0 / M + 1) := by
      have := Nat.div_add_mod h0 M
      rw [Nat.mul_add, Nat.mul_one]; omega
    rw [e2, Nat.add_mul_mod_self_left, Nat.mod_eq_of_lt hp]
  have hex : ∃ d, t ((h0 + d) % M) = 0 ∨ t ((h0 + d) % M) = k := ⟨(p + M - h0 % M) % M, Or.inl (by rw [hpos]; exact e)⟩
  obtain ⟨d, h1, h2⟩ := pk_least (fun d => t ((h0 + d) % M) = 0 ∨ t ((h0 + d) % M) = k) hex
  refine ⟨d, ?_, h1, fun j hj => ⟨fun z => h2 j hj (Or.inl z), fun z => h2 j hj (Or.inr z)⟩⟩
  rcases Nat.lt_or_ge d M with q | q
  · exact q
  · have hlt : (p + M - h0 % M) % M < M := Nat.mod_lt _ (by omega)
    exact absurd (Or.inl (by rw [hpos]; exact e)) (h2 ((p + M - h0 % M) % M) (by omega))
theorem tb_mem {M c : Nat} {key : Nat → Int64} {hh : Nat → Nat} {S : Nat → Prop} {t : Nat → Int64} (h : TB M c key hh S t) (hM : 0 < M) {v d : Nat} (hs : Stp2 M t (hh v) (key v) d) (hk : key v ≠ 0) (hi : ∀ s, S s → key s = key v → s = v) : t ((hh v + d) % M) = key v ↔ S v := by
  constructor
  · intro e
    obtain ⟨s, h1, h2⟩ := h.1 _ (Nat.mod_lt _ hM) (by rw [e]; exact hk)
    rw [← hi s h1 (h2.symm.trans e)]; exact h1
  · intro hv
    obtain ⟨d2, h1, h2, h3⟩ := h.2.1 v hv
    rcases Nat.lt_trichotomy d d2 with q | q | q
    · exact hs.1.resolve_left (h3 d q)
    · rw [q]; exact h2
    · exact absurd h2 (hs.2 d2 q).2
theorem tb_add {M c : Nat} {key : Nat → Int64} {hh : Nat → Nat} {S : Nat → Prop} {t : Nat → Int64} (h : TB M c key hh S t) {v d : Nat} (hd : d < M) (hs : Stp2 M t (hh v) (key v) d) (hz : t ((hh v + d) % M) = 0) (hk : ∀ s, S s → key s ≠ 0) (hkv : key v ≠ 0) : TB M (c + 1) key hh (fun s => S s ∨ s = v) (vp_updL t ((hh v + d) % M) (key v)) := by
  obtain ⟨a1, a2, L, hL, a3⟩ := h
  refine ⟨fun p hp hn => ?_, fun s hsv => ?_, ((hh v + d) % M) :: L, by simp; omega, fun p hp hn => ?_⟩
  · by_cases e : p = (hh v + d) % M
    · exact ⟨v, Or.inr rfl, by rw [e, pk_uLs]⟩
    · rw [pk_uLn e] at hn ⊢
      obtain ⟨s, h1, h2⟩ := a1 p hp hn
      exact ⟨s, Or.inl h1, h2⟩
  · rcases hsv with h1 | rfl
    · obtain ⟨d2, g1, g2, g3⟩ := a2 s h1
      refine ⟨d2, g1, ?_, fun e he => ?_⟩
      · rw [pk_uLn (fun q => by rw [q] at g2; exact hk s h1 (g2.symm.trans hz))]; exact g2
      · rw [pk_uLn (fun q => g3 e he (by rw [q]; exact hz))]; exact g3 e he
    · refine ⟨d, hd, pk_uLs, fun e he => ?_⟩
      rw [pk_uLn (fun q => (hs.2 e he).1 (by rw [q]; exact hz))]
      exact (hs.2 e he).1
  · by_cases e : p = (hh v + d) % M
    · rw [e]; exact List.mem_cons_self
    · rw [pk_uLn e] at hn
      exact List.mem_cons_of_mem _ (a3 p hp hn)
theorem tb_same {t : Nat → Int64} {p : Nat} {x : Int64} (h : t p = x) : vp_updL t p x = t := by
  funext j
  unfold vp_updL
  split
  · rename_i e; rw [e, h]
  · rfl
theorem TB.mono {M c c2 : Nat} {key : Nat → Int64} {hh : Nat → Nat} {S : Nat → Prop} {t : Nat → Int64} (h : TB M c key hh S t) (hc : c ≤ c2) : TB M c2 key hh S t := by
  obtain ⟨a, b, L, h1, h2⟩ := h
  exact ⟨a, b, L, by omega, h2⟩
theorem TB.congr {M c : Nat} {key : Nat → Int64} {hh : Nat → Nat} {S S2 : Nat → Prop} {t : Nat → Int64} (h : TB M c key hh S t) (e : ∀ s, S s ↔ S2 s) : TB M c key hh S2 t := by
  have : S = S2 := funext fun s => propext (e s)
  rw [← this]; exact h
/-- the class's table: 512 slots, keys the numbers themselves -/
def h5 (v : Nat) : Nat := (lN v * (-7046029254386353131 : Int64)).toBitVec.toNat / 2 ^ 55
theorem h5_lt (v : Nat) : h5 v < 512 := by
  unfold h5
  have := (lN v * (-7046029254386353131 : Int64)).toBitVec.isLt
  omega
theorem sX3_slotOf_L {N : Nat} {eS : Nat → Int64} {x : Int64} {k : Int32 → Option Int32} {h d : Nat} (hd : d < 512) (hs : Stp2 512 eS h x d) : ∀ (j n e : Nat), j < n → e + j = d → fX3_slotOf_L13 N eS x k n (nI ((h + e) % 512)) (nI e) = k (nI ((h + d) % 512)) := by
  intro j
  induction j with
  | zero =>
    intro n e hn he
    obtain ⟨n, rfl⟩ : ∃ z, n = z + 1 := ⟨n - 1, by omega⟩
    have : e = d := by omega
    subst this
    have hob : ¬ OOB (nI ((h + e) % 512)) 512 := oob_nI (Nat.mod_lt _ (by decide)) (by decide)
    have hm : (h + e) % 512 < 512 := Nat.mod_lt _ (by decide)
    rw [fX3_slotOf_L13_s, fX3_slotOf_B13, if_neg (show ¬ (512 : Int32) ≤ nI e from nI_ge (b := 512) (by omega) (by decide))]
    simp only [if_neg hob, nCl (show (h + e) % 512 < 2 ^ 31 by omega)]
    by_cases hz : eS ((h + e) % 512) = 0
    · rw [if_pos hz]
    · rw [if_neg hz, if_pos (hs.1.resolve_left hz)]
  | succ j ih =>
    intro n e hn he
    obtain ⟨n, rfl⟩ : ∃ z, n = z + 1 := ⟨n - 1, by omega⟩
    have hob : ¬ OOB (nI ((h + e) % 512)) 512 := oob_nI (Nat.mod_lt _ (by decide)) (by decide)
    have hm : (h + e) % 512 < 512 := Nat.mod_lt _ (by decide)
    obtain ⟨z1, z2⟩ := hs.2 e (by omega)
    rw [fX3_slotOf_L13_s, fX3_slotOf_B13, if_neg (show ¬ (512 : Int32) ≤ nI e from nI_ge (b := 512) (by omega) (by decide))]
    simp only [if_neg hob, nCl (show (h + e) % 512 < 2 ^ 31 by omega)]
    rw [if_neg z1, if_neg z2, nI_1, nI_1, show (511 : Int32) = nI (2 ^ 9 - 1) from rfl, nAnd, Nat.and_two_pow_sub_one_eq_mod]
    have e1 : ((h + e) % 512 + 1) % 2 ^ 9 = (h + (e + 1)) % 512 := by
      show ((h + e) % 512 + 1) % 512 = _
      rw [Nat.mod_add_mod, Nat.add_assoc]
    rw [e1]
    exact ih n (e + 1) (by omega) (by omega)
theorem sX3_slotOf {N v d : Nat} {eS : Nat → Int64} (hN : Big N) (hd : d < 512) (hs : Stp2 512 eS (h5 v) (lN v) d) : fX3_slotOf N eS (lN v) = some (nI ((h5 v + d) % 512)) := by
  unfold fX3_slotOf
  have hN' : 2 ^ 36 ≤ N := hN
  have e : (lUsh (lN v * (-7046029254386353131 : Int64)) (55 : Int32)).toInt32 = nI ((h5 v + 0) % 512) := by
    obtain ⟨a, ha, ea⟩ := wb_of (lN v * (-7046029254386353131 : Int64))
    have hh : h5 v = a / 2 ^ 55 := by unfold h5; rw [ea, wb_tn ha]
    rw [ea, show (55 : Int32) = nI 55 from rfl, lUs ha (by decide), lN_i, Nat.add_zero, Nat.mod_eq_of_lt (h5_lt v), hh]
  rw [e]
  exact sX3_slotOf_L (k := fun x => some x) hd hs d N 0 (by omega) (by omega)
/-- the keys of both tables -/
theorem key5 {S : Nat → Prop} {v : Nat} (hv : v < 2 ^ 40) (hS : ∀ s, S s → s < 2 ^ 40) : ∀ s, S s → lN s = lN v → s = v := fun s hs e => (lEq (by have := hS s hs; omega) (by omega)).mp e
theorem sX3_has {N v c : Nat} {eS : Nat → Int64} {S : Nat → Prop} (hN : Big N) (hT : TB 512 c lN h5 S eS) (hc : c < 512) (hv : v < 2 ^ 40) (hS : ∀ s, S s → s < 2 ^ 40 ∧ s ≠ 0) : (S v ∧ fX3_has N eS (lN v) = some 1) ∨ (¬ S v ∧ fX3_has N eS (lN v) = some 0) := by
  unfold fX3_has
  by_cases h0 : v = 0
  · subst h0
    right
    exact ⟨fun h => (hS 0 h).2 rfl, by rw [if_pos (show lN 0 = (0 : Int64) from rfl)]⟩
  · have hk : lN v ≠ 0 := fun e => h0 ((lE0 (by omega)).mp e)
    obtain ⟨d, hd, hs⟩ := tb_stop hT hc (h5 v) (lN v)
    have hm := tb_mem hT (by decide) hs hk (key5 hv (fun s h => (hS s h).1))
    have hlt : (h5 v + d) % 512 < 512 := Nat.mod_lt _ (by decide)
    have hob : ¬ OOB (nI ((h5 v + d) % 512)) 512 := oob_nI hlt (by decide)
    rw [if_neg hk, sX3_slotOf hN hd hs, Option.bind_some, if_neg hob, nCl (by omega)]
    by_cases hin : S v
    · left; exact ⟨hin, by rw [if_pos (hm.mpr hin)]⟩
    · right; exact ⟨hin, by rw [if_neg (fun e => hin (hm.mp e))]⟩
theorem sX3_add {N v c i : Nat} {eR eS : Nat → Int64} {S : Nat → Prop} (hN : Big N) (hT : TB 512 c lN h5 S eS) (hc : c < 511) (hi : i < 200) (hv : v < 2 ^ 40) (hv0 : v ≠ 0) (hS : ∀ s, S s → s < 2 ^ 40 ∧ s ≠ 0) : ∃ eS2, TB 512 (c + 1) lN h5 (fun s => S s ∨ s = v) eS2 ∧ fX3_add N (nI i) eR eS (lN v) = some (nI (i + 1), vp_updL eR i (lN v), eS2) := by
  unfold fX3_add
  have hk : lN v ≠ 0 := fun e => hv0 ((lE0 (by omega)).mp e)
  obtain ⟨d, hd, hs⟩ := tb_stop hT (by omega) (h5 v) (lN v)
  have hm := tb_mem hT (by decide) hs hk (key5 hv (fun s h => (hS s h).1))
  have hlt : (h5 v + d) % 512 < 512 := Nat.mod_lt _ (by decide)
  have hob : ¬ OOB (nI ((h5 v + d) % 512)) 512 := oob_nI hlt (by decide)
  have hob2 : ¬ OOB (nI i) 200 := oob_nI hi (by decide)
  refine ⟨vp_updL eS ((h5 v + d) % 512) (lN v), ?_, ?_⟩
  · by_cases hin : S v
    · rw [tb_same (hm.mpr hin)]
      exact (hT.mono (by omega)).congr (fun s => ⟨Or.inl, fun h => h.elim id (fun e => by rw [e]; exact hin)⟩)
    · refine tb_add hT hd hs (hs.1.resolve_right (fun e => hin (hm.mp e))) (fun s h e => (hS s h).2 ((lE0 (by have := (hS s h).1; omega)).mp e)) hk
  · rw [if_neg (show ¬ (200 : Int32) ≤ nI i from nI_ge hi (by decide)), if_neg hob2, sX3_slotOf hN hd hs, Option.bind_some, if_neg hob, nCl (by omega), nCl (by omega), nI_1]
theorem sX3_clear_L {N : Nat} {eN : Int32} {k : Int32 → (Nat → Int64) → Option (Int32 × (Nat → Int64))} : ∀ (j n c : Nat) (eS : Nat → Int64), j < n → c + j = 512 → (∀ p, p < c → eS p = 0) → ∃ eS2, (∀ p, p < 512 → eS2 p = 0) ∧ fX3_clear_L7 N k n eN eS (nI c) = k eN eS2 := by
  intro j
  induction j with
  | zero =>
    intro n c eS hn hc h
    obtain ⟨n, rfl⟩ : ∃ z, n = z + 1 := ⟨n - 1, by omega⟩
    have : c = 512 := by omega
    subst this
    exact ⟨eS, h, by rw [fX3_clear_L7_s, fX3_clear_B7, if_pos (show (512 : Int32) ≤ nI 512 by decide)]⟩
  | succ j ih =>
    intro n c eS hn hc h
    obtain ⟨n, rfl⟩ : ∃ z, n = z + 1 := ⟨n - 1, by omega⟩
    obtain ⟨eS2, h1, h2⟩ := ih n (c + 1) (vp_updL eS c 0) (by omega) (by omega) (by
      intro p hp
      by_cases e : p = c
      · rw [e, pk_uLs]
      · rw [pk_uLn e]; exact h p (by omega))
    have hob : ¬ OOB (nI c) 512 := oob_nI (by omega) (by decide)
    refine ⟨eS2, h1, ?_⟩
    rw [fX3_clear_L7_s, fX3_clear_B7, if_neg (show ¬ (512 : Int32) ≤ nI c from nI_ge (b := 512) (by omega) (by decide)), if_neg hob, nCl (by omega), nI_1]
    exact h2
theorem sX3_clear {N : Nat} {eN : Int32} {eS : Nat → Int64} (hN : Big N) : ∃ eS2, (∀ p, p < 512 → eS2 p = 0) ∧ fX3_clear N eN eS = some (0, eS2) := by
  unfold fX3_clear
  have hN' : 2 ^ 36 ≤ N := hN
  exact sX3_clear_L (k := fun a b => some (a, b)) 512 N 0 eS (by omega) (by omega) (fun p hp => by omega)
theorem sX3_hasTwo_L {N v c i : Nat} {eR eS : Nat → Int64} {S : Nat → Prop} {ro : Nat → Nat} (hN : Big N) (hT : TB 512 c lN h5 S eS) (hc : c < 512) (hi : i ≤ 200) (hv : v < 2 ^ 40) (hS : ∀ s, S s → s < 2 ^ 40 ∧ s ≠ 0) (hro : ∀ j, j < i → eR j = lN (ro j) ∧ ro j < 2 ^ 40) : ∀ (j n z : Nat), j < n → z + j = i → ((∃ l, z ≤ l ∧ l < i ∧ S (v ^^^ ro l)) ∧ fX3_hasTwo_L2 N (nI i) eR eS (lN v) (some 0) n (nI z) = some 1) ∨ ((∀ l, z ≤ l → l < i → ¬ S (v ^^^ ro l)) ∧ fX3_hasTwo_L2 N (nI i) eR eS (lN v) (some 0) n (nI z) = some 0) := by
  intro j
  induction j with
  | zero =>
    intro n z hn hz
    obtain ⟨n, rfl⟩ : ∃ q, n = q + 1 := ⟨n - 1, by omega⟩
    have : z = i := by omega
    subst this
    right
    refine ⟨fun l h1 h2 => by omega, ?_⟩
    rw [fX3_hasTwo_L2_s, fX3_hasTwo_B2, if_pos (nI_le (Nat.le_refl _) (by omega))]
  | succ j ih =>
    intro n z hn hz
    obtain ⟨n, rfl⟩ : ∃ q, n = q + 1 := ⟨n - 1, by omega⟩
    have hob : ¬ OOB (nI z) 200 := oob_nI (by omega) (by decide)
    obtain ⟨r1, r2⟩ := hro z (by omega)
    rw [fX3_hasTwo_L2_s, fX3_hasTwo_B2, if_neg (nI_ge (by omega) (by omega)), if_neg hob, nCl (by omega), r1, lX]
    rcases sX3_has hN hT hc (Nat.xor_lt_two_pow hv r2) hS with ⟨a, e⟩ | ⟨a, e⟩
    · left
      exact ⟨⟨z, Nat.le_refl _, by omega, a⟩, by rw [e, Option.bind_some, if_neg (by decide)]⟩
    · rw [e, Option.bind_some, if_pos rfl, nI_1]
      rcases ih n (z + 1) (by omega) (by omega) with ⟨⟨l, b1, b2, b3⟩, e2⟩ | ⟨b, e2⟩
      · left; exact ⟨⟨l, by omega, b2, b3⟩, e2⟩
      · right
        refine ⟨fun l h1 h2 => ?_, e2⟩
        rcases Nat.eq_or_lt_of_le h1 with q | q
        · rw [← q]; exact a
        · exact b l q h2
theorem sX3_hasTwo {N v c i : Nat} {eR eS : Nat → Int64} {S : Nat → Prop} {ro : Nat → Nat} (hN : Big N) (hT : TB 512 c lN h5 S eS) (hc : c < 512) (hi : i ≤ 200) (hv : v < 2 ^ 40) (hS : ∀ s, S s → s < 2 ^ 40 ∧ s ≠ 0) (hro : ∀ j, j < i → eR j = lN (ro j) ∧ ro j < 2 ^ 40) : ((∃ l, l < i ∧ S (v ^^^ ro l)) ∧ fX3_hasTwo N (nI i) eR eS (lN v) = some 1) ∨ ((∀ l, l < i → ¬ S (v ^^^ ro l)) ∧ fX3_hasTwo N (nI i) eR eS (lN v) = some 0) := by
  unfold fX3_hasTwo
  have hN' : 2 ^ 36 ≤ N := hN
  rcases sX3_hasTwo_L hN hT hc hi hv hS hro i N 0 (by omega) (by omega) with ⟨⟨l, _, b2, b3⟩, e2⟩ | ⟨b, e2⟩
  · left; exact ⟨⟨l, b2, b3⟩, e2⟩
  · right; exact ⟨fun l h => b l (by omega) h, e2⟩
/-- the reference's table: 65536 places, keys one more than the numbers -/
def k6 (v : Nat) : Int64 := lN (v + 1)
def h6 (v : Nat) : Nat := (lShr (lN v * (2654435761 : Int64)) (13 : Int32)).toBitVec.toNat % 65536
theorem h6_lt (v : Nat) : h6 v < 65536 := Nat.mod_lt _ (by decide)
theorem sX6_had_L {N : Nat} {mB : Nat → Int64} {v : Nat} {x3 : Int32} {k : (Nat → Int64) → Int32 → Option (Int32 × (Nat → Int64))} {h d : Nat} (hs : Stp2 65536 mB h (k6 v) d) : ∀ (j n e : Nat), j < n → e + j = d → fX6_had_L15 N (lN v) x3 k n mB (nI ((h + e) % 65536)) = k mB (nI ((h + d) % 65536)) := by
  intro j
  have ek : lN v + (1 : Int64) = k6 v := lN_1 v
  induction j with
  | zero =>
    intro n e hn he
    obtain ⟨n, rfl⟩ : ∃ z, n = z + 1 := ⟨n - 1, by omega⟩
    have : e = d := by omega
    subst this
    have hob : ¬ OOB (nI ((h + e) % 65536)) 65536 := oob_nI (Nat.mod_lt _ (by decide)) (by decide)
    have hm : (h + e) % 65536 < 65536 := Nat.mod_lt _ (by decide)
    rw [fX6_had_L15_s, fX6_had_B15, ek]
    simp only [if_neg hob, nCl (show (h + e) % 65536 < 2 ^ 31 by omega)]
    by_cases hz : mB ((h + e) % 65536) = 0
    · rw [if_pos hz]
    · rw [if_neg hz, if_pos (hs.1.resolve_left hz)]
  | succ j ih =>
    intro n e hn he
    obtain ⟨n, rfl⟩ : ∃ z, n = z + 1 := ⟨n - 1, by omega⟩
    have hob : ¬ OOB (nI ((h + e) % 65536)) 65536 := oob_nI (Nat.mod_lt _ (by decide)) (by decide)
    have hm : (h + e) % 65536 < 65536 := Nat.mod_lt _ (by decide)
    obtain ⟨z1, z2⟩ := hs.2 e (by omega)
    have e1 : (nI ((h + e) % 65536) + (1 : Int32)) &&& (65535 : Int32) = nI ((h + (e + 1)) % 65536) := by
      rw [nI_1, show (65535 : Int32) = nI (2 ^ 16 - 1) by decide, nAnd, Nat.and_two_pow_sub_one_eq_mod]
      congr 1
      show ((h + e) % 65536 + 1) % 65536 = _
      rw [Nat.mod_add_mod, Nat.add_assoc]
    rw [fX6_had_L15_s, fX6_had_B15, ek]
    simp only [if_neg hob, nCl (show (h + e) % 65536 < 2 ^ 31 by omega)]
    rw [if_neg z1, if_neg z2, e1]
    exact ih n (e + 1) (by omega) (by omega)
theorem sX6_had {N v c : Nat} {mB : Nat → Int64} {S : Nat → Prop} (hN : Big N) (hT : TB 65536 c k6 h6 S mB) (hc : c < 65535) (hv : v < 2 ^ 40) (hS : ∀ s, S s → s < 2 ^ 40) (x3 : Int32) : ∃ mB2, ((S v ∧ fX6_had N mB (lN v) x3 = some (1, mB2)) ∨ (¬ S v ∧ fX6_had N mB (lN v) x3 = some (0, mB2))) ∧ ((x3 = 0 ∧ mB2 = mB) ∨ (¬ x3 = 0 ∧ TB 65536 (c + 1) k6 h6 (fun s => S s ∨ s = v) mB2)) := by
  unfold fX6_had
  have hN' : 2 ^ 36 ≤ N := hN
  have hk : k6 v ≠ 0 := fun e => by have := (lE0 (show v + 1 < 2 ^ 63 by omega)).mp e; omega
  have hinj : ∀ s, S s → k6 s = k6 v → s = v := fun s hs e => by
    have := (lEq (show s + 1 < 2 ^ 63 by have := hS s hs; omega) (show v + 1 < 2 ^ 63 by omega)).mp e
    omega
  obtain ⟨d, hd, hs⟩ := tb_stop hT (by omega) (h6 v) (k6 v)
  have hm := tb_mem hT (by decide) hs hk hinj
  have hlt : (h6 v + d) % 65536 < 65536 := Nat.mod_lt _ (by decide)
  have hob : ¬ OOB (nI ((h6 v + d) % 65536)) 65536 := oob_nI hlt (by decide)
  have e0 : ((lShr (lN v * (2654435761 : Int64)) (13 : Int32)) &&& (65535 : Int64)).toInt32 = nI ((h6 v + 0) % 65536) := by
    obtain ⟨a, ha, ea⟩ := wb_of (lShr (lN v * (2654435761 : Int64)) (13 : Int32))
    have hh : h6 v = a % 65536 := by unfold h6; rw [ea, wb_tn ha]
    rw [ea, show (65535 : Int64) = lN (2 ^ 16 - 1) by decide, lA, Nat.and_two_pow_sub_one_eq_mod, lN_i, Nat.add_zero, Nat.mod_eq_of_lt (h6_lt v), hh]
  rw [e0, sX6_had_L hs d N 0 (by omega) (by omega)]
  have ek : lN v + (1 : Int64) = k6 v := lN_1 v
  simp only [if_neg hob, nCl (show (h6 v + d) % 65536 < 2 ^ 31 by omega), ek]
  by_cases hin : S v
  · have hv1 := hm.mpr hin
    have hnz : ¬ mB ((h6 v + d) % 65536) = 0 := by rw [hv1]; exact hk
    simp only [if_neg hnz]
    by_cases h3 : x3 = 0
    · exact ⟨mB, Or.inl ⟨hin, by rw [if_pos h3]⟩, Or.inl ⟨h3, rfl⟩⟩
    · refine ⟨vp_updL mB ((h6 v + d) % 65536) (k6 v), Or.inl ⟨hin, by rw [if_neg h3]⟩, Or.inr ⟨h3, ?_⟩⟩
      rw [tb_same hv1]
      exact (hT.mono (by omega)).congr (fun s => ⟨Or.inl, fun h => h.elim id (fun e => by rw [e]; exact hin)⟩)
  · have hz := hs.1.resolve_right (fun e => hin (hm.mp e))
    simp only [if_pos hz]
    by_cases h3 : x3 = 0
    · exact ⟨mB, Or.inr ⟨hin, by rw [if_pos h3]⟩, Or.inl ⟨h3, rfl⟩⟩
    · refine ⟨vp_updL mB ((h6 v + d) % 65536) (k6 v), Or.inr ⟨hin, by rw [if_neg h3]⟩, Or.inr ⟨h3, ?_⟩⟩
      exact tb_add hT hd hs hz (fun s h e => by have := (lE0 (show s + 1 < 2 ^ 63 by have := hS s h; omega)).mp e; omega) hk
theorem sX6_clear_L {N : Nat} {k : (Nat → Int64) → Option (Nat → Int64)} : ∀ (j n c : Nat) (mB : Nat → Int64), j < n → c + j = 65536 → (∀ p, p < c → mB p = 0) → ∃ mB2, (∀ p, p < 65536 → mB2 p = 0) ∧ fX6_clear_L2 N k n mB (nI c) = k mB2 := by
  intro j
  induction j with
  | zero =>
    intro n c mB hn hc h
    obtain ⟨n, rfl⟩ : ∃ z, n = z + 1 := ⟨n - 1, by omega⟩
    have : c = 65536 := by omega
    subst this
    exact ⟨mB, h, by rw [fX6_clear_L2_s, fX6_clear_B2, if_pos (show (65536 : Int32) ≤ nI 65536 by decide)]⟩
  | succ j ih =>
    intro n c mB hn hc h
    obtain ⟨n, rfl⟩ : ∃ z, n = z + 1 := ⟨n - 1, by omega⟩
    obtain ⟨mB2, h1, h2⟩ := ih n (c + 1) (vp_updL mB c 0) (by omega) (by omega) (by
      intro p hp
      by_cases e : p = c
      · rw [e, pk_uLs]
      · rw [pk_uLn e]; exact h p (by omega))
    have hob : ¬ OOB (nI c) 65536 := oob_nI (by omega) (by decide)
    refine ⟨mB2, h1, ?_⟩
    rw [fX6_clear_L2_s, fX6_clear_B2, if_neg (show ¬ (65536 : Int32) ≤ nI c from nI_ge (b := 65536) (by omega) (by decide)), if_neg hob, nCl (by omega), nI_1]
    exact h2
theorem sX6_clear {N : Nat} {mB : Nat → Int64} (hN : Big N) : ∃ mB2, (∀ p, p < 65536 → mB2 p = 0) ∧ fX6_clear N mB = some mB2 := by
  unfold fX6_clear
  have hN' : 2 ^ 36 ≤ N := hN
  exact sX6_clear_L (k := fun a => some a) 65536 N 0 mB (by omega) (by omega) (fun p hp => by omega)

/-! ===== rests x^i modulo G, and the distance ===== -/
theorem odd_canc {G z : Nat} (hG : G % 2 = 1) (h : Dv G (2 * z)) : Dv G z := by
  obtain ⟨q, hq⟩ := h
  have hpar : q % 2 = 0 := by
    have e : pmul q G % 2 = (q % 2) := by
      rw [pmul_rec, if_pos hG]
      have h1 : (q ^^^ 2 * pmul q (G / 2)) % 2 = 1 ↔ q % 2 = 1 := by
        rw [Nat.xor_mod_two_eq_one]
        constructor
        · intro h; apply Classical.byContradiction; intro h2; exact h ⟨fun a => absurd a h2, fun a => by omega⟩
        · intro h h2; have := h2.mp h; omega
      have h2 : (q ^^^ 2 * pmul q (G / 2)) % 2 < 2 := Nat.mod_lt _ (by decide)
      omega
    rw [← hq] at e; omega
  obtain ⟨p, rfl⟩ : ∃ p, q = 2 * p := ⟨q / 2, by omega⟩
  rw [pmul_2l] at hq
  exact ⟨p, by omega⟩
theorem odd_cancp {G z : Nat} (hG : G % 2 = 1) : ∀ a, Dv G (pmul (ppow 2 a) z) → Dv G z
  | 0, h => by
    have e : pmul (ppow 2 0) z = z := pmul_1l z
    rwa [e] at h
  | a + 1, h => by
    have e : pmul (ppow 2 (a + 1)) z = 2 * pmul (ppow 2 a) z := by
      show pmul (pmul (ppow 2 a) 2) z = _
      rw [pmul_2r, pmul_2l]
    rw [e] at h
    exact odd_cancp hG a (odd_canc hG h)
theorem pmod_xor {G : Nat} (hG : 0 < G) (a b : Nat) : pmod (a ^^^ b) G = pmod a G ^^^ pmod b G := by
  obtain ⟨k, hk⟩ := dg_ex hG
  exact pmod_eq hk (Nat.xor_lt_two_pow (pmod_lt hk a) (pmod_lt hk b)) ((pmod_cg a G).xor (pmod_cg b G))
noncomputable def rr (G i : Nat) : Nat := pmod (ppow 2 i) G
noncomputable def mx (G a u : Nat) : Nat := pmod (pmul (ppow 2 a) u) G
section RR
variable {G w : Nat}
theorem rr_lt (hm : Dg G w) (i : Nat) : rr G i < 2 ^ w := pmod_lt hm _
theorem rr_0 (hm : Dg G w) (hw : 1 ≤ w) : rr G 0 = 1 := by
  have h2d : 2 ^ 1 ≤ 2 ^ w := pow_le_of_le hw
  exact pmod_eq hm (by omega) Cg.rfl'
theorem rr_s (hm : Dg G w) (i : Nat) : pmod (2 * rr G i) G = rr G (i + 1) := by
  refine pmod_eq hm (rr_lt hm _) ?_
  refine (pmod_cg _ _).trans ?_
  show Cg G (pmul (ppow 2 i) 2) _
  rw [pmul_2r]
  exact cg_2 (pmod_cg _ _).symm
theorem rr_mx (hm : Dg G w) (a i : Nat) : rr G (a + i) = mx G a (rr G i) := by
  unfold rr mx
  refine pmod_congr hm.pos ?_
  rw [ppow_add]
  exact Cg.rfl'.mul (pmod_cg _ _).symm
theorem mx_x (hm : Dg G w) (a u v : Nat) : mx G a (u ^^^ v) = mx G a u ^^^ mx G a v := by
  unfold mx
  rw [pmul_xr, pmod_xor hm.pos]
theorem mx_inj (hm : Dg G w) (ho : G % 2 = 1) {a u v : Nat} (hu : u < 2 ^ w) (hv : v < 2 ^ w) (h : mx G a u = mx G a v) : u = v := by
  have h1 : mx G a (u ^^^ v) = 0 := by rw [mx_x hm, h, Nat.xor_self]
  have h2 : Dv G (pmul (ppow 2 a) (u ^^^ v)) := (pmod_dv hm.pos).mp h1
  have h3 := odd_cancp ho a h2
  exact xor_eq0 (h3.small hm (Nat.xor_lt_two_pow hu hv))
theorem rr_ne (hm : Dg G w) (ho : G % 2 = 1) (hw : 1 ≤ w) (i : Nat) : rr G i ≠ 0 := by
  intro h
  have h2 : Dv G (pmul (ppow 2 i) 1) := by rw [pmul_1]; exact (pmod_dv hm.pos).mp h
  have := (odd_cancp ho i h2).eq1
  have := hm.1
  have h2d : 2 ^ 1 ≤ 2 ^ w := pow_le_of_le hw
  omega
def P2 (G J : Nat) : Prop := 1 ≤ J ∧ rr G J = 1
def P3 (G J : Nat) : Prop := ∃ L, L < J ∧ rr G J ^^^ 1 = rr G L
def P4 (G J : Nat) : Prop := ∃ L M, L < J ∧ M < J ∧ rr G J ^^^ 1 ^^^ rr G L = rr G M
def Ex (P : Nat → Prop) (n : Nat) : Prop := ∃ J, J < n ∧ P J
/-- the distance for n bits -/
def DS (G n : Nat) (r : Int32) : Prop := (Ex (P2 G) n ∧ r = 2) ∨ (¬ Ex (P2 G) n ∧ Ex (P3 G) n ∧ r = 3) ∨ (¬ Ex (P2 G) n ∧ ¬ Ex (P3 G) n ∧ Ex (P4 G) n ∧ r = 4) ∨ (¬ Ex (P2 G) n ∧ ¬ Ex (P3 G) n ∧ ¬ Ex (P4 G) n ∧ r = 5)
theorem DS.uniq {n : Nat} {r q : Int32} (h1 : DS G n r) (h2 : DS G n q) : r = q := by
  unfold DS at h1 h2
  rcases h1 with ⟨a, rfl⟩ | ⟨a, b, rfl⟩ | ⟨a, b, c, rfl⟩ | ⟨a, b, c, rfl⟩ <;> rcases h2 with ⟨a', rfl⟩ | ⟨a', b', rfl⟩ | ⟨a', b', c', rfl⟩ | ⟨a', b', c', rfl⟩ <;> first | rfl | (exfalso; simp_all)
theorem two_eq (hm : Dg G w) (ho : G % 2 = 1) (hw : 1 ≤ w) {i j : Nat} (hij : i < j) : rr G i = rr G j ↔ P2 G (j - i) := by
  have e : j = i + (j - i) := by omega
  have e2 : rr G j = mx G i (rr G (j - i)) := by
    have := rr_mx hm i (j - i)
    rwa [← e] at this
  have e3 : rr G i = mx G i (rr G 0) := by
    have := rr_mx hm i 0
    rwa [Nat.add_zero] at this
  constructor
  · intro h
    refine ⟨by omega, ?_⟩
    have := mx_inj hm ho (rr_lt hm _) (rr_lt hm _) (e3.symm.trans (h.trans e2))
    rw [← this, rr_0 hm hw]
  · intro h
    rw [e2, h.2, e3, rr_0 hm hw]
/-- no two of the first n rests are the same -/
theorem two_no (hm : Dg G w) (ho : G % 2 = 1) (hw : 1 ≤ w) {n : Nat} (h : ¬ Ex (P2 G) n) {i j : Nat} (hi : i < n) (hj : j < n) (e : rr G i = rr G j) : i = j := by
  rcases Nat.lt_trichotomy i j with q | q | q
  · exact absurd ⟨j - i, by omega, (two_eq hm ho hw q).mp e⟩ h
  · exact q
  · exact absurd ⟨i - j, by omega, (two_eq hm ho hw q).mp e.symm⟩ h
theorem rr_sub (hm : Dg G w) {a i : Nat} (h : a ≤ i) : rr G i = mx G a (rr G (i - a)) := by
  have := rr_mx hm a (i - a)
  rwa [show a + (i - a) = i by omega] at this
theorem xa (a b c : Nat) (h : a ^^^ b = c) : a ^^^ c = b := by rw [← h, ← Nat.xor_assoc, Nat.xor_self, Nat.zero_xor]
theorem three_eq (hm : Dg G w) (ho : G % 2 = 1) (hw : 1 ≤ w) {n : Nat} (h2 : ¬ Ex (P2 G) n) : Ex (P3 G) n ↔ ∃ i j l, j < i ∧ i < n ∧ l < n ∧ rr G i ^^^ rr G j = rr G l := by
  constructor
  · rintro ⟨J, hJ, L, hL, e⟩
    exact ⟨J, 0, L, by omega, hJ, by omega, by rw [rr_0 hm hw]; exact e⟩
  · rintro ⟨i, j, l, hij, hi, hl, e⟩
    have hli : l ≠ i := by
      intro q; rw [q] at e
      have := xa _ _ _ e
      rw [Nat.xor_self] at this
      exact rr_ne hm ho hw j this.symm
    have hlj : l ≠ j := by
      intro q; rw [q, Nat.xor_comm] at e
      have := xa _ _ _ e
      rw [Nat.xor_self] at this
      exact rr_ne hm ho hw i this.symm
    have fin : ∀ a p q s : Nat, a ≤ p → a ≤ q → a ≤ s → rr G p ^^^ rr G q = rr G s → rr G (p - a) ^^^ rr G (q - a) = rr G (s - a) := by
      intro a p q s h1 h2 h3 h4
      rw [rr_sub hm h1, rr_sub hm h2, rr_sub hm h3, ← mx_x hm] at h4
      exact mx_inj hm ho (Nat.xor_lt_two_pow (rr_lt hm _) (rr_lt hm _)) (rr_lt hm _) h4
    rcases Nat.lt_or_gt_of_ne hli with q | q
    · rcases Nat.lt_or_gt_of_ne hlj with z | z
      · -- l least, i most
        have := fin l i j l (by omega) (by omega) (Nat.le_refl _) e
        rw [Nat.sub_self, rr_0 hm hw] at this
        exact ⟨i - l, by omega, j - l, by omega, xa _ _ _ this⟩
      · have := fin j i j l (by omega) (Nat.le_refl _) (by omega) e
        rw [Nat.sub_self, rr_0 hm hw] at this
        exact ⟨i - j, by omega, l - j, by omega, this⟩
    · have := fin j i j l (by omega) (Nat.le_refl _) (by omega) e
      rw [Nat.sub_self, rr_0 hm hw] at this
      refine ⟨l - j, by omega, i - j, by omega, ?_⟩
      rw [Nat.xor_comm] at this
      have := xa _ _ _ this
      rw [Nat.xor_comm] at this; exact this
/-- two unlike pairs with the same sum -/
def Pr4 (G n : Nat) : Prop := ∃ i j i' j', j < i ∧ i < n ∧ j' < i' ∧ i' < i ∧ rr G i ^^^ rr G j = rr G i' ^^^ rr G j'
theorem four_eq (hm : Dg G w) (ho : G % 2 = 1) (hw : 1 ≤ w) {n : Nat} (h2 : ¬ Ex (P2 G) n) : Ex (P4 G) n ↔ Pr4 G n := by
  constructor
  · rintro ⟨J, hJ, L, M, hL, hM, e⟩
    have hLM : L ≠ M := by
      intro q
      rw [q] at e
      have e1 : rr G J ^^^ 1 = 0 := by
        have := xor_mv e
        rw [Nat.xor_self] at this; exact this
      have := xor_eq0 e1
      rw [← rr_0 hm hw] at this
      have := two_no hm ho hw h2 hJ (show 0 < n by omega) this
      omega
    have e2 : rr G J ^^^ rr G 0 = rr G M ^^^ rr G L := by rw [rr_0 hm hw]; exact xor_mv e
    rcases Nat.lt_or_gt_of_ne hLM with q | q
    · exact ⟨J, 0, M, L, by omega, hJ, q, hM, e2⟩
    · exact ⟨J, 0, L, M, by omega, hJ, q, hL, by rw [Nat.xor_comm (rr G L)]; exact e2⟩
  · rintro ⟨i, j, i', j', h1, hi, h3, h4, e⟩
    have fin : ∀ a p q s t : Nat, a ≤ p → a ≤ q → a ≤ s → a ≤ t → rr G p ^^^ rr G q = rr G s ^^^ rr G t → rr G (p - a) ^^^ rr G (q - a) = rr G (s - a) ^^^ rr G (t - a) := by
      intro a p q s t g1 g2 g3 g5 g4
      rw [rr_sub hm g1, rr_sub hm g2, rr_sub hm g3, rr_sub hm g5, ← mx_x hm, ← mx_x hm] at g4
      exact mx_inj hm ho (Nat.xor_lt_two_pow (rr_lt hm _) (rr_lt hm _)) (Nat.xor_lt_two_pow (rr_lt hm _) (rr_lt hm _)) g4
    rcases Nat.le_total j j' with q | q
    · have := fin j i j i' j' (by omega) (Nat.le_refl _) (by omega) q e
      rw [Nat.sub_self, rr_0 hm hw] at this
      refine ⟨i - j, by omega, i' - j, j' - j, by omega, by omega, ?_⟩
      rw [this, Nat.xor_comm (rr G (i' - j)), Nat.xor_assoc, Nat.xor_self, Nat.xor_zero]
    · have := fin j' i j i' j' (by omega) q (by omega) (Nat.le_refl _) e
      rw [Nat.sub_self, rr_0 hm hw] at this
      refine ⟨i - j', by omega, i' - j', j - j', by omega, by omega, ?_⟩
      have e3 := xor_mv this
      rw [e3]
      have : ∀ a b c : Nat, a ^^^ 1 ^^^ b ^^^ 1 ^^^ a = b := by
        intro a b c
        rw [Nat.xor_comm _ a, ← Nat.xor_assoc, ← Nat.xor_assoc, ← Nat.xor_assoc, Nat.xor_self, Nat.zero_xor, Nat.xor_comm 1 b, Nat.xor_assoc, Nat.xor_self, Nat.xor_zero]
      exact this _ _ 0
/-- the least J with a property, as the class keeps it -/
def Lst (P : Nat → Prop) (b : Nat) (u : Int32) : Prop := (u = 201 ∧ ∀ J, J < b → ¬ P J) ∨ ∃ J, J < b ∧ u = nI (J + 1) ∧ P J ∧ ∀ K, K < J → ¬ P K
theorem Lst.le {P : Nat → Prop} {b n : Nat} {u : Int32} (h : Lst P b u) (hn : n ≤ b) (hb : b ≤ 200) : ¬ nI n < u ↔ Ex P n := by
  rcases h with ⟨rfl, h⟩ | ⟨J, hJ, rfl, hP, hl⟩
  · constructor
    · intro q; exact absurd (nI_lt (b := 201) (by omega) (by decide)) q
    · rintro ⟨J, h1, h2⟩; exact absurd h2 (h J (by omega))
  · constructor
    · intro q
      refine ⟨J, ?_, hP⟩
      rcases Nat.lt_or_ge J n with z | z
      · exact z
      · exact absurd (nI_lt (by omega) (by omega)) q
    · rintro ⟨K, h1, h2⟩ q
      have := (nI_ltI (by omega) (by omega)).mp q
      exact hl K (by omega) h2
theorem Lst.step {P : Nat → Prop} {b : Nat} {u : Int32} (h : Lst P b u) (hu : u = 201 → ¬ P b) : Lst P (b + 1) u := by
  rcases h with ⟨rfl, h⟩ | ⟨J, hJ, e, hP, hl⟩
  · left
    refine ⟨rfl, fun J hJ => ?_⟩
    rcases Nat.eq_or_lt_of_le (show J ≤ b by omega) with q | q
    · rw [q]; exact hu rfl
    · exact h J q
  · exact Or.inr ⟨J, by omega, e, hP, hl⟩
theorem Lst.no {P : Nat → Prop} {b : Nat} {u : Int32} (h : Lst P b u) (hu : u = 201) (hb : b ≤ 200) : ∀ J, J < b → ¬ P J := by
  rcases h with ⟨_, h⟩ | ⟨J, hJ, e, hP, hl⟩
  · exact h
  · rw [hu] at e
    have := (nI_eq (a := 201) (b := J + 1) (by decide) (by omega)).mp e
    omega
theorem Lst.found {P : Nat → Prop} {b : Nat} {u : Int32} (h : Lst P b u) (hu : u = 201) (hb : b ≤ 200) (hP : P b) : Lst P (b + 1) (nI (b + 1)) := Or.inr ⟨b, by omega, rfl, hP, h.no hu hb⟩
theorem Lst.le2 {P : Nat → Prop} {b n : Nat} {u : Int32} (h : Lst P b u) (hb : b ≤ 200) (hn : n ≤ b ∨ Ex P b) (h200 : n ≤ 200) : ¬ nI n < u ↔ Ex P n := by
  rcases Nat.lt_or_ge b n with q | q
  · have hx := hn.resolve_left (by omega)
    have h1 := (h.le (Nat.le_refl _) hb).mpr hx
    constructor
    · intro _
      obtain ⟨J, a, b'⟩ := hx
      exact ⟨J, by omega, b'⟩
    · intro _ z
      rcases h with ⟨rfl, h⟩ | ⟨J, hJ, rfl, hP, hl⟩
      · obtain ⟨J, a, b'⟩ := hx; exact h J a b'
      · have := (nI_ltI (by omega) (by omega)).mp z; omega
  · exact h.le q hb
theorem sX4_fewest {N : Nat} {u2 u3 u4 : Int32} {n : Nat} (hn : n ≤ 200) (h : ∃ b2 b3 b4, (b2 ≤ 200 ∧ b3 ≤ 200 ∧ b4 ≤ 200) ∧ Lst (P2 G) b2 u2 ∧ Lst (P3 G) b3 u3 ∧ Lst (P4 G) b4 u4 ∧ (n ≤ b2 ∨ Ex (P2 G) b2) ∧ (¬ Ex (P2 G) n → n ≤ b3 ∨ Ex (P3 G) b3) ∧ (¬ Ex (P2 G) n → ¬ Ex (P3 G) n → n ≤ b4)) : ∃ r, DS G n r ∧ fX4_fewest N u2 u3 u4 (nI n) = some r := by
  obtain ⟨b2, b3, b4, ⟨c2, c3, c4⟩, l2, l3, l4, e2, e3, e4⟩ := h
  have q2 := l2.le2 c2 e2 hn
  unfold fX4_fewest DS
  by_cases h2 : Ex (P2 G) n
  · exact ⟨2, Or.inl ⟨h2, rfl⟩, by rw [if_neg (q2.mpr h2)]⟩
  · have a2 : nI n < u2 := Classical.byContradiction (fun z => h2 (q2.mp z))
    have q3 := l3.le2 c3 (e3 h2) hn
    rw [if_pos a2]
    by_cases h3 : Ex (P3 G) n
    · exact ⟨3, Or.inr (Or.inl ⟨h2, h3, rfl⟩), by rw [if_neg (q3.mpr h3)]⟩
    · have a3 : nI n < u3 := Classical.byContradiction (fun z => h3 (q3.mp z))
      have q4 := l4.le (e4 h2 h3) c4
      rw [if_pos a3]
      by_cases h4 : Ex (P4 G) n
      · exact ⟨4, Or.inr (Or.inr (Or.inl ⟨h2, h3, h4, rfl⟩)), by rw [if_neg (q4.mpr h4)]⟩
      · have a4 : nI n < u4 := Classical.byContradiction (fun z => h4 (q4.mp z))
        exact ⟨5, Or.inr (Or.inr (Or.inr ⟨h2, h3, h4, rfl⟩)), by rw [if_pos a4]⟩
/-- what the class keeps in an Unseen, for all n -/
def UOk (G : Nat) (u2 u3 u4 : Int32) : Prop := ∀ N n, n ≤ 200 → ∃ r, DS G n r ∧ fX4_fewest N u2 u3 u4 (nI n) = some r
/-- what has been added so far -/
def Blw (G j : Nat) (s : Nat) : Prop := ∃ i, i < j ∧ s = rr G i
theorem sX4_L {N : Nat} {uG : Int64} (hN : Big N) (hm : Dg G w) (ho : G % 2 = 1) (hw : 1 ≤ w) (hw32 : w ≤ 32) : ∀ (t n j : Nat) (u3 u4 : Int32) (b4 : Nat) (eR eS : Nat → Int64), t < n → j + t = 200 → 1 ≤ j → Lst (P2 G) j 201 → Lst (P3 G) j u3 → Lst (P4 G) b4 u4 → b4 ≤ j → (u3 = 201 → b4 = j) → (∀ m, m ≤ j → ¬ Ex (P3 G) m → m ≤ b4) → TB 512 (j - 1) lN h5 (Blw G (j - 1)) eS → (∀ i, i < j - 1 → eR i = lN (rr G i)) →
    ∃ u2' u3' u4' eN' eR' eS', UOk G u2' u3' u4' ∧ fX4_findFor_L52 N (lN G) (nI w) (fun u2_28 u3_29 u4_30 uG_31 eN_32 eR_33 eS_34 => (some (u2_28, u3_29, u4_30, uG_31, eN_32, eR_33, eS_34))) n 201 u3 u4 uG (nI (j - 1)) eR eS (lN (rr G (j - 1))) (nI j) = some (u2', u3', u4', uG, eN', eR', eS') := by
  intro t
  have hw32' : 2 ^ w ≤ 2 ^ 32 := pow_le_of_le hw32
  induction t with
  | zero =>
    intro n j u3 u4 b4 eR eS hn hj hj1 l2 l3 l4 hb4 hb4e hb4m hT hR
    obtain ⟨n, rfl⟩ : ∃ z, n = z + 1 := ⟨n - 1, by omega⟩
    have : j = 200 := by omega
    subst this
    refine ⟨201, u3, u4, _, _, _, ?_, by rw [fX4_findFor_L52_s, fX4_findFor_B52, if_pos (show (200 : Int32) ≤ nI 200 by decide)]⟩
    intro N n hn
    refine sX4_fewest hn ⟨200, 200, b4, ⟨Nat.le_refl _, Nat.le_refl _, hb4⟩, l2, l3, l4, Or.inl hn, fun _ => Or.inl hn, fun _ h3 => hb4m n hn h3⟩
  | succ t ih =>
    intro n j u3 u4 b4 eR eS hn hj hj1 l2 l3 l4 hb4 hb4e hb4m hT hR
    obtain ⟨n, rfl⟩ : ∃ z, n = z + 1 := ⟨n - 1, by omega⟩
    have hrl := rr_lt hm (j - 1)
    have hSb : ∀ q s, Blw G q s → s < 2 ^ 40 ∧ s ≠ 0 := by
      rintro q s ⟨i, _, rfl⟩
      have := rr_lt hm i
      exact ⟨by omega, rr_ne hm ho hw i⟩
    obtain ⟨eS2, hT2, ea⟩ := sX3_add (N := N) (i := j - 1) (eR := eR) hN hT (by omega) (by omega) (show rr G (j - 1) < 2 ^ 40 by omega) (rr_ne hm ho hw _) (hSb _)
    have hT3 : TB 512 j lN h5 (Blw G j) eS2 := by
      rw [show j - 1 + 1 = j by omega] at hT2
      refine hT2.congr (fun s => ⟨?_, ?_⟩)
      · rintro (⟨i, h1, h2⟩ | h)
        · exact ⟨i, by omega, h2⟩
        · exact ⟨j - 1, by omega, h⟩
      · rintro ⟨i, h1, h2⟩
        by_cases e : i = j - 1
        · right; rw [h2, e]
        · left; exact ⟨i, by omega, h2⟩
    have hR2 : ∀ i, i < j → vp_updL eR (j - 1) (lN (rr G (j - 1))) i = lN (rr G i) := by
      intro i hi
      by_cases e : i = j - 1
      · rw [e, pk_uLs]
      · rw [pk_uLn e]; exact hR i (by omega)
    have ers : pmod (2 * rr G (j - 1)) G = rr G j := by
      have := rr_s hm (j - 1)
      rwa [show j - 1 + 1 = j by omega] at this
    have hrj := rr_lt hm j
    have hx40 : rr G j ^^^ 1 < 2 ^ 40 := Nat.xor_lt_two_pow (by omega) (by decide)
    rw [fX4_findFor_L52_s, fX4_findFor_B52, if_neg (show ¬ (200 : Int32) ≤ nI j from nI_ge (b := 200) (by omega) (by decide)), if_pos rfl, ea, Option.bind_some, sX2_timesX hm hw (by omega) hrl, Option.bind_some, ers, show (1 : Int64) = lN 1 from rfl, lX, nI_1, show j - 1 + 1 = j by omega]
    unfold fX4_lookAt
    by_cases h0 : rr G j ^^^ 1 = 0
    · have hP2 : P2 G j := ⟨hj1, xor_eq0 h0⟩
      rw [if_pos (by rw [h0]; rfl), Option.bind_some]
      obtain ⟨n, rfl⟩ : ∃ z, n = z + 1 := ⟨n - 1, by omega⟩
      have l2' := l2.found rfl (by omega) hP2
      refine ⟨nI (j + 1), u3, u4, nI j, vp_updL eR (j - 1) (lN (rr G (j - 1))), eS2, ?_, ?_⟩
      · intro N n hn
        have hx : Ex (P2 G) (j + 1) := ⟨j, by omega, hP2⟩
        refine sX4_fewest hn ⟨j + 1, j, b4, ⟨by omega, by omega, by omega⟩, l2', l3, l4, Or.inr hx, fun h2 => ?_, fun h2 h3 => ?_⟩
        · left
          rcases Nat.lt_or_ge j n with q | q
          · exact absurd ⟨j, q, hP2⟩ h2
          · exact q
        · have : n ≤ j := by
            rcases Nat.lt_or_ge j n with q | q
            · exact absurd ⟨j, q, hP2⟩ h2
            · exact q
          exact hb4m n this h3
      · rw [fX4_findFor_L52_s, fX4_findFor_B52]
        by_cases h200 : (200 : Int32) ≤ nI (j + 1)
        · rw [if_pos h200]
        · rw [if_neg h200, if_neg (fun e => by have := (nI_eq (b := 201) (by omega) (by decide)).mp e; omega)]
    · have hn2 : ¬ P2 G j := fun h => h0 (by rw [h.2]; rfl)
      have l2' : Lst (P2 G) (j + 1) 201 := l2.step (fun _ => hn2)
      have hne : ¬ lN (rr G j ^^^ 1) = 0 := fun e => h0 ((lE0 (by omega)).mp e)
      rw [if_neg hne]
      have goon : ∀ (u3' u4' : Int32) (b4' : Nat), Lst (P3 G) (j + 1) u3' → Lst (P4 G) b4' u4' → b4' ≤ j + 1 → (u3' = 201 → b4' = j + 1) → (∀ m, m ≤ j + 1 → ¬ Ex (P3 G) m → m ≤ b4') → ∃ u2'' u3'' u4'' eN' eR' eS', UOk G u2'' u3'' u4'' ∧ fX4_findFor_L52 N (lN G) (nI w) (fun u2_28 u3_29 u4_30 uG_31 eN_32 eR_33 eS_34 => (some (u2_28, u3_29, u4_30, uG_31, eN_32, eR_33, eS_34))) n 201 u3' u4' uG (nI j) (vp_updL eR (j - 1) (lN (rr G (j - 1)))) eS2 (lN (rr G j)) (nI (j + 1)) = some (u2'', u3'', u4'', uG, eN', eR', eS') := by
        intro u3' u4' b4' g1 g2 g3 g4 g5
        exact ih n (j + 1) u3' u4' b4' _ _ (by omega) (by omega) (by omega) l2' g1 g2 g3 g4 g5 hT3 hR2
      by_cases h3 : u3 = 201
      · rw [if_pos h3]
        have hbj := hb4e h3
        rcases sX3_has hN hT3 (by omega) hx40 (hSb _) with ⟨a, e⟩ | ⟨a, e⟩
        · rw [e, Option.bind_some, if_neg (by decide), Option.bind_some]
          have hP3 : P3 G j := by obtain ⟨i, h1, h2⟩ := a; exact ⟨i, h1, h2⟩
          refine goon (nI (j + 1)) u4 b4 (l3.found h3 (by omega) hP3) l4 (by omega) (fun z => ?_) (fun m hm' hx => ?_)
          · have := (nI_eq (b := 201) (by omega) (by decide)).mp z; omega
          · rcases Nat.lt_or_ge j m with q | q
            · exact absurd ⟨j, q, hP3⟩ hx
            · exact hb4m m q hx
        · rw [e, Option.bind_some, if_pos rfl]
          have hn3 : ¬ P3 G j := fun ⟨i, h1, h2⟩ => a ⟨i, h1, h2⟩
          have l3' := l3.step (fun _ => hn3)
          subst hbj
          by_cases h4 : u4 = 201
          · rw [if_pos h4]
            have p4e : (∃ l, l < b4 ∧ Blw G b4 (rr G b4 ^^^ 1 ^^^ rr G l)) ↔ P4 G b4 := by
              constructor
              · rintro ⟨l, h1, i, h2, h3⟩; exact ⟨l, i, h1, h2, h3⟩
              · rintro ⟨l, i, h1, h2, h3⟩; exact ⟨l, h1, i, h2, h3⟩
            rcases sX3_hasTwo (N := N) (i := b4) (ro := rr G) hN hT3 (by omega) (by omega) hx40 (hSb _) (fun i hi => ⟨hR2 i hi, by have := rr_lt hm i; omega⟩) with ⟨a4, e4⟩ | ⟨a4, e4⟩
            · rw [e4, Option.bind_some, if_neg (by decide), Option.bind_some]
              exact goon u3 (nI (b4 + 1)) (b4 + 1) l3' (l4.found h4 (by omega) (p4e.mp a4)) (Nat.le_refl _) (fun _ => rfl) (fun m hm' _ => hm')
            · rw [e4, Option.bind_some, if_pos rfl, Option.bind_some]
              exact goon u3 u4 (b4 + 1) l3' (l4.step (fun _ h => by obtain ⟨l, h1, h2⟩ := p4e.mpr h; exact a4 l h1 h2)) (Nat.le_refl _) (fun _ => rfl) (fun m hm' _ => hm')
          · rw [if_neg h4, Option.bind_some]
            exact goon u3 u4 (b4 + 1) l3' (l4.step (fun z => absurd z h4)) (Nat.le_refl _) (fun _ => rfl) (fun m hm' _ => hm')
      · rw [if_neg h3, Option.bind_some]
        refine goon u3 u4 b4 (l3.step (fun z => absurd z h3)) l4 (by omega) (fun z => absurd z h3) (fun m hm' hx => ?_)
        rcases Nat.lt_or_ge j m with q | q
        · have hx2 : Ex (P3 G) j := by
            rcases l3 with ⟨z, _⟩ | ⟨J, hJ, _, hP, _⟩
            · exact absurd z h3
            · exact ⟨J, hJ, hP⟩
          obtain ⟨J, h1, h2⟩ := hx2
          exact absurd ⟨J, by omega, h2⟩ hx
        · exact hb4m m q hx
theorem sX4_findFor {N : Nat} {u2 u3 u4 eN : Int32} {uG : Int64} {eR eS : Nat → Int64} (hN : Big N) (hm : Dg G w) (ho : G % 2 = 1) (hw : 1 ≤ w) (hw32 : w ≤ 32) (hu : uG = lN G → UOk G u2 u3 u4) : ∃ u2' u3' u4' eN' eR' eS', UOk G u2' u3' u4' ∧ fX4_findFor N u2 u3 u4 uG eN eR eS (lN G) = some (u2', u3', u4', lN G, eN', eR', eS') := by
  unfold fX4_findFor
  have hw32' : 2 ^ (w + 1) ≤ 2 ^ 33 := pow_le_of_le (by omega)
  have hG2 := hm.2
  by_cases h : uG = lN G
  · exact ⟨u2, u3, u4, eN, eR, eS, hu h, by rw [if_pos h, h]⟩
  · have hN' : 2 ^ 36 ≤ N := hN
    obtain ⟨eS2, hz, ec⟩ := sX3_clear (N := N) (eN := eN) (eS := eS) hN
    rw [if_neg h, sX2_degree hN hm.pos (by omega) hm, Option.bind_some, ec, Option.bind_some]
    have e1 : (1 : Int64) = lN (rr G (1 - 1)) := by rw [Nat.sub_self, rr_0 hm hw]; rfl
    rw [e1]
    refine sX4_L (uG := lN G) hN hm ho hw hw32 199 N 1 201 201 1 eR eS2 (by omega) (by omega) (Nat.le_refl _) (Or.inl ⟨rfl, fun J hJ hP => by have := hP.1; omega⟩) (Or.inl ⟨rfl, fun J hJ hP => by obtain ⟨L, h1, _⟩ := hP; omega⟩) (Or.inl ⟨rfl, fun J hJ hP => by obtain ⟨L, M, h1, _⟩ := hP; omega⟩) (Nat.le_refl _) (fun _ => rfl) (fun m hm' _ => hm') ?_ (fun i hi => by omega)
    exact (tb_0 hz).congr (fun s => ⟨fun z => z.elim, fun ⟨i, h1, _⟩ => by omega⟩)
end RR

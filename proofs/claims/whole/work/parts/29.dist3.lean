/-! ===== the reference's distance, and both alike ===== -/
section R6
variable {G w P f : Nat} {N : Nat} {mC : Int32} {mW : Nat → Int32} {mP : Nat → Int64}
theorem d31 {n : Nat} {k : (Nat → Int64) → (Nat → Int64) → Option (Int32 × (Nat → Int64) × (Nat → Int64))} (hN : Big N) (hf : f < 8) (hW : mW f = nI w) (hQ : mP f = lN P) (hw : 1 ≤ w) (hw32 : w ≤ 32) (hP : P < 2 ^ w) (hG : G = 2 ^ w ^^^ P) (ho : G % 2 = 1) (hn : n ≤ 200) : ∀ (t z i : Nat) (mR mB : Nat → Int64), t < z → i + t = n → ¬ Ex (P2 G) i → TB 65536 i k6 h6 (Blw G i) mB → (∀ j, j < i → mR j = lN (rr G j)) → ∃ mR2 mB2, (Ex (P2 G) n ∧ fX6_distance_L31 N mC mW mP (nI f) (nI n) k z mR mB (lN (rr G i)) (nI i) = some (2, mR2, mB2)) ∨ (¬ Ex (P2 G) n ∧ TB 65536 n k6 h6 (Blw G n) mB2 ∧ (∀ j, j < n → mR2 j = lN (rr G j)) ∧ fX6_distance_L31 N mC mW mP (nI f) (nI n) k z mR mB (lN (rr G i)) (nI i) = k mR2 mB2) := by
  intro t
  have hm : Dg G w := by rw [hG]; exact gq_dg hP
  have hw32' : 2 ^ w ≤ 2 ^ 32 := pow_le_of_le hw32
  induction t with
  | zero =>
    intro z i mR mB hz hi h2 hT hR
    obtain ⟨z, rfl⟩ : ∃ q, z = q + 1 := ⟨z - 1, by omega⟩
    have : i = n := by omega
    subst this
    refine ⟨mR, mB, Or.inr ⟨h2, hT, hR, ?_⟩⟩
    rw [fX6_distance_L31_s, fX6_distance_B31, if_pos (nI_le (Nat.le_refl _) (by omega))]
  | succ t ih =>
    intro z i mR mB hz hi h2 hT hR
    obtain ⟨z, rfl⟩ : ∃ q, z = q + 1 := ⟨z - 1, by omega⟩
    have hob : ¬ OOB (nI i) 200 := oob_nI (by omega) (by decide)
    have hrl := rr_lt hm i
    have hSb : ∀ s, Blw G i s → s < 2 ^ 40 := by
      rintro s ⟨j, _, rfl⟩
      have := rr_lt hm j; omega
    have eup : fX6_up N mW mP (nI f) (lN (rr G i)) = some (lN (rr G (i + 1))) := by
      rw [sX6_up hf hW hQ hw hw32 hP (by exact hrl), ← hG, rr_s hm]
    obtain ⟨mB2, hr, hx⟩ := sX6_had (N := N) (v := rr G i) hN hT (by omega) (by omega) hSb 1
    have hT2 : TB 65536 (i + 1) k6 h6 (Blw G (i + 1)) mB2 := by
      rcases hx with ⟨h, _⟩ | ⟨_, h⟩
      · exact absurd h (by decide)
      · refine h.congr (fun s => ⟨?_, ?_⟩)
        · rintro (⟨j, h1, h2⟩ | h)
          · exact ⟨j, by omega, h2⟩
          · exact ⟨i, by omega, h⟩
        · rintro ⟨j, h1, h2⟩
          by_cases e : j = i
          · right; rw [h2, e]
          · left; exact ⟨j, by omega, h2⟩
    have hR2 : ∀ j, j < i + 1 → vp_updL mR i (lN (rr G i)) j = lN (rr G j) := by
      intro j hj
      by_cases e : j = i
      · rw [e, pk_uLs]
      · rw [pk_uLn e]; exact hR j (by omega)
    have step : fX6_distance_L31 N mC mW mP (nI f) (nI n) k (z + 1) mR mB (lN (rr G i)) (nI i) = (fX6_had N mB (lN (rr G i)) 1).bind (fun r_17 => (if r_17.1 = 0 then (fX6_distance_L31 N mC mW mP (nI f) (nI n) k z (vp_updL mR i (lN (rr G i))) r_17.2 (lN (rr G (i + 1))) (nI (i + 1))) else (some ((2 : Int32), (vp_updL mR i (lN (rr G i))), r_17.2)))) := by
      rw [fX6_distance_L31_s, fX6_distance_B31, if_neg (nI_ge (by omega) (by omega))]
      simp only [if_neg hob, nCl (show i < 2 ^ 31 by omega), eup, Option.bind_some, pk_uLs, nI_1]
    rw [step]
    rcases hr with ⟨a, e⟩ | ⟨a, e⟩
    · rw [e, Option.bind_some, if_neg (show ¬ (1 : Int32) = 0 by decide)]
      refine ⟨_, _, Or.inl ⟨?_, rfl⟩⟩
      obtain ⟨j, h1, h2⟩ := a
      exact ⟨i - j, by omega, (two_eq hm ho hw h1).mp h2.symm⟩
    · rw [e, Option.bind_some, if_pos rfl]
      refine ih z (i + 1) _ _ (by omega) (by omega) ?_ hT2 hR2
      rintro ⟨J, h1, h3⟩
      by_cases hJ : J = i
      · subst hJ
        refine a ⟨0, by have := h3.1; omega, ?_⟩
        rw [rr_0 hm hw]; exact h3.2
      · exact h2 ⟨J, by omega, h3⟩
theorem d87 {n i : Nat} {mR mB : Nat → Int64} {k : (Nat → Int64) → (Nat → Int64) → Option (Int32 × (Nat → Int64) × (Nat → Int64))} (hN : Big N) (hm : Dg G w) (hw32 : w ≤ 32) (hn : n ≤ 200) (hi : i < n) (hT : TB 65536 n k6 h6 (Blw G n) mB) (hR : ∀ j, j < n → mR j = lN (rr G j)) : ∀ (t z j : Nat), t < z → j + t = i → ((∃ b l, b < i ∧ l < n ∧ rr G i ^^^ rr G b = rr G l) ∧ fX6_distance_L87 N mC mW mP (nI n) (nI i) k z mR mB (nI j) = some (3, mR, mB)) ∨ ((∀ b l, j ≤ b → b < i → l < n → rr G i ^^^ rr G b ≠ rr G l) ∧ fX6_distance_L87 N mC mW mP (nI n) (nI i) k z mR mB (nI j) = k mR mB) := by
  intro t
  have hw32' : 2 ^ w ≤ 2 ^ 32 := pow_le_of_le hw32
  induction t with
  | zero =>
    intro z j hz hj
    obtain ⟨z, rfl⟩ : ∃ q, z = q + 1 := ⟨z - 1, by omega⟩
    have : j = i := by omega
    subst this
    right
    exact ⟨fun b l h1 h2 => by omega, by rw [fX6_distance_L87_s, fX6_distance_B87, if_pos (nI_le (Nat.le_refl _) (by omega))]⟩
  | succ t ih =>
    intro z j hz hj
    obtain ⟨z, rfl⟩ : ∃ q, z = q + 1 := ⟨z - 1, by omega⟩
    have hob : ¬ OOB (nI i) 200 := oob_nI (by omega) (by decide)
    have hob2 : ¬ OOB (nI j) 200 := oob_nI (by omega) (by decide)
    have hSb : ∀ s, Blw G n s → s < 2 ^ 40 := by
      rintro s ⟨j, _, rfl⟩
      have := rr_lt hm j; omega
    have hx40 : rr G i ^^^ rr G j < 2 ^ 40 := Nat.xor_lt_two_pow (by have := rr_lt hm i; omega) (by have := rr_lt hm j; omega)
    obtain ⟨mB2, hr, hx⟩ := sX6_had (N := N) (v := rr G i ^^^ rr G j) hN hT (by omega) hx40 hSb 0
    have eB : mB2 = mB := by
      rcases hx with ⟨_, h⟩ | ⟨h, _⟩
      · exact h
      · exact absurd rfl h
    subst eB
    rw [fX6_distance_L87_s, fX6_distance_B87, if_neg (nI_ge (by omega) (by omega)), if_neg hob, if_neg hob2, nCl (by omega), nCl (by omega), hR i hi, hR j (by omega), lX]
    rcases hr with ⟨a, e⟩ | ⟨a, e⟩
    · left
      obtain ⟨l, h1, h2⟩ := a
      exact ⟨⟨j, l, by omega, h1, h2⟩, by rw [e, Option.bind_some, if_neg (show ¬ (1 : Int32) = 0 by decide)]⟩
    · rw [e, Option.bind_some, if_pos rfl, nI_1]
      rcases ih z (j + 1) (by omega) (by omega) with ⟨b1, b2⟩ | ⟨b1, b2⟩
      · exact Or.inl ⟨b1, b2⟩
      · right
        refine ⟨fun b l h1 h2 h3 h4 => ?_, b2⟩
        rcases Nat.eq_or_lt_of_le h1 with q | q
        · rw [← q] at h4; exact a ⟨l, h3, h4⟩
        · exact b1 b l q h2 h3 h4
theorem d78 {n : Nat} {mR mB : Nat → Int64} {k : (Nat → Int64) → (Nat → Int64) → Option (Int32 × (Nat → Int64) × (Nat → Int64))} (hN : Big N) (hm : Dg G w) (hw32 : w ≤ 32) (hn : n ≤ 200) (hT : TB 65536 n k6 h6 (Blw G n) mB) (hR : ∀ j, j < n → mR j = lN (rr G j)) : ∀ (t z i : Nat), t < z → i + t = n → ((∃ a b l, b < a ∧ a < n ∧ l < n ∧ rr G a ^^^ rr G b = rr G l) ∧ fX6_distance_L78 N mC mW mP (nI n) k z mR mB (nI i) = some (3, mR, mB)) ∨ ((∀ a b l, i ≤ a → b < a → a < n → l < n → rr G a ^^^ rr G b ≠ rr G l) ∧ fX6_distance_L78 N mC mW mP (nI n) k z mR mB (nI i) = k mR mB) := by
  intro t
  have hN' : 2 ^ 36 ≤ N := hN
  induction t with
  | zero =>
    intro z i hz hi
    obtain ⟨z, rfl⟩ : ∃ q, z = q + 1 := ⟨z - 1, by omega⟩
    have : i = n := by omega
    subst this
    right
    exact ⟨fun a b l h1 h2 h3 => by omega, by rw [fX6_distance_L78_s, fX6_distance_B78, if_pos (nI_le (Nat.le_refl _) (by omega))]⟩
  | succ t ih =>
    intro z i hz hi
    obtain ⟨z, rfl⟩ : ∃ q, z = q + 1 := ⟨z - 1, by omega⟩
    rw [fX6_distance_L78_s, fX6_distance_B78, if_neg (nI_ge (by omega) (by omega)), nI_1]
    rcases d87 (N := N) (mC := mC) (mW := mW) (mP := mP) (k := fun mR_35 mB_36 => fX6_distance_L78 N mC mW mP (nI n) k z mR_35 mB_36 (nI (i + 1))) hN hm hw32 hn (show i < n by omega) hT hR i N 0 (by omega) (by omega) with ⟨⟨b, l, h1, h2, h3⟩, e⟩ | ⟨h, e⟩
    · left
      exact ⟨⟨i, b, l, h1, by omega, h2, h3⟩, e⟩
    · rcases ih z (i + 1) (by omega) (by omega) with ⟨b1, b2⟩ | ⟨b1, b2⟩
      · exact Or.inl ⟨b1, e.trans b2⟩
      · right
        refine ⟨fun a b l h1 h2 h3 h4 h5 => ?_, e.trans b2⟩
        rcases Nat.eq_or_lt_of_le h1 with q | q
        · rw [← q] at h5 h2; exact h b l (by omega) h2 h4 h5
        · exact b1 a b l q h2 h3 h4 h5
/-- the pairs ahead of (i, j), and their sums -/
def Prs (G i j : Nat) (s : Nat) : Prop := ∃ a b, b < a ∧ (a < i ∨ (a = i ∧ b < j)) ∧ s = rr G a ^^^ rr G b
def NC (G i j : Nat) : Prop := ∀ a b a' b', b < a → (a < i ∨ (a = i ∧ b < j)) → b' < a' → a' < a → rr G a ^^^ rr G b ≠ rr G a' ^^^ rr G b'
theorem d147 {n i : Nat} {mR : Nat → Int64} {k : (Nat → Int64) → (Nat → Int64) → Option (Int32 × (Nat → Int64) × (Nat → Int64))} (hN : Big N) (hm : Dg G w) (ho : G % 2 = 1) (hw : 1 ≤ w) (hw32 : w ≤ 32) (hn : n ≤ 200) (h2 : ¬ Ex (P2 G) n) (hi : i < n) (hR : ∀ j, j < n → mR j = lN (rr G j)) : ∀ (t z j : Nat) (mB : Nat → Int64), t < z → j + t = i → TB 65536 (i * 200 + j) k6 h6 (Prs G i j) mB → NC G i j → ∃ mB2, (Pr4 G n ∧ fX6_distance_L147 N mC mW mP (nI n) (nI i) k z mR mB (nI j) = some (4, mR, mB2)) ∨ (TB 65536 (i * 200 + i) k6 h6 (Prs G i i) mB2 ∧ NC G i i ∧ fX6_distance_L147 N mC mW mP (nI n) (nI i) k z mR mB (nI j) = k mR mB2) := by
  intro t
  have hw32' : 2 ^ w ≤ 2 ^ 32 := pow_le_of_le hw32
  induction t with
  | zero =>
    intro z j mB hz hj hT hc
    obtain ⟨z, rfl⟩ : ∃ q, z = q + 1 := ⟨z - 1, by omega⟩
    have : j = i := by omega
    subst this
    exact ⟨mB, Or.inr ⟨hT, hc, by rw [fX6_distance_L147_s, fX6_distance_B147, if_pos (nI_le (Nat.le_refl _) (by omega))]⟩⟩
  | succ t ih =>
    intro z j mB hz hj hT hc
    obtain ⟨z, rfl⟩ : ∃ q, z = q + 1 := ⟨z - 1, by omega⟩
    have hob : ¬ OOB (nI i) 200 := oob_nI (by omega) (by decide)
    have hob2 : ¬ OOB (nI j) 200 := oob_nI (by omega) (by decide)
    have hx : ∀ a b, rr G a ^^^ rr G b < 2 ^ 40 := fun a b => Nat.xor_lt_two_pow (by have := rr_lt hm a; omega) (by have := rr_lt hm b; omega)
    obtain ⟨mB2, hr, hx3⟩ := sX6_had (N := N) (v := rr G i ^^^ rr G j) hN hT (by omega) (hx i j) (by rintro s ⟨a, b, _, _, rfl⟩; exact hx a b) 1
    have hT2 : TB 65536 (i * 200 + (j + 1)) k6 h6 (Prs G i (j + 1)) mB2 := by
      rcases hx3 with ⟨h, _⟩ | ⟨_, h⟩
      · exact absurd h (by decide)
      · refine h.congr (fun s => ⟨?_, ?_⟩)
        · rintro (⟨a, b, h1, h2, h3⟩ | h)
          · exact ⟨a, b, h1, by omega, h3⟩
          · exact ⟨i, j, by omega, Or.inr ⟨rfl, by omega⟩, h⟩
        · rintro ⟨a, b, h1, h2, h3⟩
          by_cases e : a = i ∧ b = j
          · right; rw [h3, e.1, e.2]
          · left; exact ⟨a, b, h1, by omega, h3⟩
    rw [fX6_distance_L147_s, fX6_distance_B147, if_neg (nI_ge (by omega) (by omega)), if_neg hob, if_neg hob2, nCl (by omega), nCl (by omega), hR i hi, hR j (by omega), lX]
    rcases hr with ⟨⟨a, b, q1, q2, q3⟩, e⟩ | ⟨na, e⟩
    · refine ⟨mB2, Or.inl ⟨?_, by rw [e, Option.bind_some, if_neg (show ¬ (1 : Int32) = 0 by decide)]⟩⟩
      rcases q2 with q2 | ⟨rfl, q2⟩
      · exact ⟨i, j, a, b, by omega, hi, q1, q2, q3⟩
      · have e3 : rr G j = rr G b := by
          have := xa _ _ _ q3
          rw [← Nat.xor_assoc, Nat.xor_self, Nat.zero_xor] at this
          exact this.symm
        have := two_no hm ho hw h2 (show j < n by omega) (show b < n by omega) e3
        omega
    · rw [e, Option.bind_some, if_pos rfl, nI_1]
      refine ih z (j + 1) mB2 (by omega) (by omega) hT2 ?_
      intro a b a' b' h1 h2' h3 h4 h5
      by_cases e : a = i ∧ b = j
      · rw [e.1, e.2] at h5
        rw [e.1] at h4
        exact na ⟨a', b', h3, Or.inl h4, h5⟩
      · exact hc a b a' b' h1 (by omega) h3 h4 h5
theorem d138 {n : Nat} {mR : Nat → Int64} (hN : Big N) (hm : Dg G w) (ho : G % 2 = 1) (hw : 1 ≤ w) (hw32 : w ≤ 32) (hn : n ≤ 200) (h2 : ¬ Ex (P2 G) n) (hR : ∀ j, j < n → mR j = lN (rr G j)) : ∀ (t z i : Nat) (mB : Nat → Int64), t < z → i + t = n → TB 65536 (i * 200) k6 h6 (Prs G i 0) mB → NC G i 0 → ∃ mB2, (Pr4 G n ∧ fX6_distance_L138 N mC mW mP (nI n) (fun mR_60 mB_61 => (some ((5 : Int32), mR_60, mB_61))) z mR mB (nI i) = some (4, mR, mB2)) ∨ (¬ Pr4 G n ∧ fX6_distance_L138 N mC mW mP (nI n) (fun mR_60 mB_61 => (some ((5 : Int32), mR_60, mB_61))) z mR mB (nI i) = some (5, mR, mB2)) := by
  intro t
  have hN' : 2 ^ 36 ≤ N := hN
  induction t with
  | zero =>
    intro z i mB hz hi hT hc
    obtain ⟨z, rfl⟩ : ∃ q, z = q + 1 := ⟨z - 1, by omega⟩
    have : i = n := by omega
    subst this
    refine ⟨mB, Or.inr ⟨?_, by rw [fX6_distance_L138_s, fX6_distance_B138, if_pos (nI_le (Nat.le_refl _) (by omega))]⟩⟩
    rintro ⟨a, b, a', b', h1, h2, h3, h4, h5⟩
    exact hc a b a' b' h1 (Or.inl h2) h3 h4 h5
  | succ t ih =>
    intro z i mB hz hi hT hc
    obtain ⟨z, rfl⟩ : ∃ q, z = q + 1 := ⟨z - 1, by omega⟩
    rw [fX6_distance_L138_s, fX6_distance_B138, if_neg (nI_ge (by omega) (by omega)), nI_1]
    obtain ⟨mB2, ⟨h4, e⟩ | ⟨hT2, hc2, e⟩⟩ := d147 (N := N) (mC := mC) (mW := mW) (mP := mP) (k := fun mR_56 mB_57 => fX6_distance_L138 N mC mW mP (nI n) (fun mR_60 mB_61 => (some ((5 : Int32), mR_60, mB_61))) z mR_56 mB_57 (nI (i + 1))) hN hm ho hw hw32 hn h2 (show i < n by omega) hR i N 0 mB (by omega) (by omega) hT hc
    · exact ⟨mB2, Or.inl ⟨h4, e⟩⟩
    · have hT3 : TB 65536 ((i + 1) * 200) k6 h6 (Prs G (i + 1) 0) mB2 := by
        refine (hT2.mono (by omega)).congr (fun s => ⟨?_, ?_⟩)
        · rintro ⟨a, b, q1, q2, q3⟩; exact ⟨a, b, q1, by omega, q3⟩
        · rintro ⟨a, b, q1, q2, q3⟩; exact ⟨a, b, q1, by omega, q3⟩
      have hc3 : NC G (i + 1) 0 := fun a b a' b' q1 q2 q3 q4 => hc2 a b a' b' q1 (by omega) q3 q4
      obtain ⟨mB3, r⟩ := ih z (i + 1) mB2 (by omega) (by omega) hT3 hc3
      refine ⟨mB3, ?_⟩
      rcases r with ⟨a, e2⟩ | ⟨a, e2⟩
      · exact Or.inl ⟨a, e.trans e2⟩
      · exact Or.inr ⟨a, e.trans e2⟩
theorem sX6_distance {k n : Nat} {mR mB : Nat → Int64} (hN : Big N) (hf : f < 8) (hfm : fX6_isForm N (nI k) (nI f) = some 1) (hW : mW f = nI w) (hQ : mP f = lN P) (hw : 1 ≤ w) (hw32 : w ≤ 32) (hP : P < 2 ^ w) (hG : G = 2 ^ w ^^^ P) (ho : G % 2 = 1) (hn1 : 1 ≤ n) (hn : n ≤ 200) : ∃ r mR2 mB2, DS G n r ∧ fX6_distance N (nI k) mW mP mR mB (nI f) (nI n) = some (r, mR2, mB2) := by
  unfold fX6_distance
  have hN' : 2 ^ 36 ≤ N := hN
  have hm : Dg G w := by rw [hG]; exact gq_dg hP
  obtain ⟨mB1, hz1, ec1⟩ := sX6_clear (N := N) (mB := mB) hN
  have h01 : ¬ nI n < (1 : Int32) := nI_nlt (b := 1) hn1 (by omega)
  have h02 : nI n ≤ (200 : Int32) := nI_le (b := 200) hn (by decide)
  have z10 : ¬ (1 : Int32) = 0 := by decide
  simp only [hfm, Option.bind_some, if_neg z10, if_neg h01, if_pos h02, ec1]
  have e1 : (1 : Int64) = lN (rr G 0) := by rw [rr_0 hm hw]; rfl
  rw [e1]
  have hT1 : TB 65536 0 k6 h6 (Blw G 0) mB1 := (tb_0 hz1).congr (fun s => ⟨fun z => z.elim, fun ⟨i, h1, _⟩ => by omega⟩)
  obtain ⟨mR2, mB2, h31⟩ := d31 (N := N) (mC := nI k) (mW := mW) (mP := mP) (n := n) (k := fun mR_22 mB_23 => (fX6_distance_L78 N (nI k) mW mP (nI n) (fun mR_39 mB_40 => ((fX6_clear N mB_40).bind (fun r_43 => (fX6_distance_L138 N (nI k) mW mP (nI n) (fun mR_60 mB_61 => (some ((5 : Int32), mR_60, mB_61))) N mR_39 r_43 (0 : Int32))))) N mR_22 mB_23 (0 : Int32))) hN hf hW hQ hw hw32 hP hG ho hn n N 0 mR mB1 (by omega) (by omega) (by rintro ⟨J, h1, _⟩; omega) hT1 (fun j hj => by omega)
  rcases h31 with ⟨h2, e⟩ | ⟨h2, hT2, hR2, e⟩
  · exact ⟨2, mR2, mB2, Or.inl ⟨h2, rfl⟩, e⟩
  · rcases d78 (N := N) (mC := nI k) (mW := mW) (mP := mP) (k := fun mR_39 mB_40 => ((fX6_clear N mB_40).bind (fun r_43 => (fX6_distance_L138 N (nI k) mW mP (nI n) (fun mR_60 mB_61 => (some ((5 : Int32), mR_60, mB_61))) N mR_39 r_43 (0 : Int32))))) hN hm hw32 hn hT2 hR2 n N 0 (by omega) (by omega) with ⟨⟨a, b, l, q1, q2, q3, q4⟩, e2⟩ | ⟨q, e2⟩
    · exact ⟨3, mR2, mB2, Or.inr (Or.inl ⟨h2, (three_eq hm ho hw h2).mpr ⟨a, b, l, q1, q2, q3, q4⟩, rfl⟩), e.trans e2⟩
    · have h3 : ¬ Ex (P3 G) n := by
        intro h
        obtain ⟨a, b, l, q1, q2, q3, q4⟩ := (three_eq hm ho hw h2).mp h
        exact q a b l (by omega) q1 q2 q3 q4
      obtain ⟨mB3, hz3, ec3⟩ := sX6_clear (N := N) (mB := mB2) hN
      have hT3 : TB 65536 (0 * 200) k6 h6 (Prs G 0 0) mB3 := (tb_0 hz3).congr (fun s => ⟨fun z => z.elim, fun ⟨a, b, h1, h2, _⟩ => by omega⟩)
      obtain ⟨mB4, ⟨h4, e4⟩ | ⟨h4, e4⟩⟩ := d138 (N := N) (mC := nI k) (mW := mW) (mP := mP) hN hm ho hw hw32 hn h2 hR2 n N 0 mB3 (by omega) (by omega) hT3 (fun a b a' b' h1 h2 => by omega)
      · exact ⟨4, mR2, mB4, Or.inr (Or.inr (Or.inl ⟨h2, h3, (four_eq hm ho hw h2).mpr h4, rfl⟩)), e.trans (e2.trans (by rw [ec3, Option.bind_some]; exact e4))⟩
      · exact ⟨5, mR2, mB4, Or.inr (Or.inr (Or.inr ⟨h2, h3, fun z => h4 ((four_eq hm ho hw h2).mp z), rfl⟩)), e.trans (e2.trans (by rw [ec3, Option.bind_some]; exact e4))⟩
end R6
/-- what an Unseen of the class holds -/
def UInv (u2 u3 u4 : Int32) (uG : Int64) : Prop := uG = 0 ∨ ∃ w G, Dg G w ∧ w ≤ 32 ∧ uG = lN G ∧ UOk G u2 u3 u4
theorem gq_odd {w P : Nat} (hw : 1 ≤ w) (hP : P % 2 = 1) : (2 ^ w ^^^ P) % 2 = 1 := by
  rw [Nat.xor_mod_two_eq_one]
  have : 2 ^ w % 2 = 0 := by
    obtain ⟨z, rfl⟩ : ∃ z, w = z + 1 := ⟨w - 1, by omega⟩
    rw [Nat.pow_succ]; omega
  omega
theorem ag_distance {N k : Nat} {mW mI mO : Nat → Int32} {mP mS mE mR mB : Nat → Int64} {rw ri ro : Int32} {rg rs re : Int64} {u2 u3 u4 eN : Int32} {uG : Int64} {eR eS : Nat → Int64} (hN : Big N) (hk : k ≤ 8) (x1 : Int32) (hF : ∀ f, f < k → x1 = nI f → FR rw rg rs re ri ro (mW f) (mP f) (mS f) (mE f) (mI f) (mO f)) (hU : UInv u2 u3 u4 uG) (x2 : Int32) : ∃ (r u2' u3' u4' : Int32) (uG' : Int64) (eN' : Int32) (eR' eS' mR' mB' : Nat → Int64), UInv u2' u3' u4' uG' ∧ fX5_distance N (nI k) rg u2 u3 u4 uG eN eR eS x1 x2 = some (r, u2', u3', u4', uG', eN', eR', eS') ∧ fX6_distance N (nI k) mW mP mR mB x1 x2 = some (r, mR', mB') := by
  rcases isForm_c N k hk x1 with ⟨a, b⟩ | ⟨f, hf, rfl, a, b⟩
  · exact ⟨-1, u2, u3, u4, uG, eN, eR, eS, mR, mB, hU, by unfold fX5_distance; rw [a]; rfl, by unfold fX6_distance; rw [b]; rfl⟩
  · obtain ⟨w, P, st, en, ⟨w1, w2⟩, ⟨p1, p2, p3, p4⟩, ⟨e1, e2, e3, e4⟩, ⟨g1, g2, g3, g4⟩, g5, g6⟩ := hF f hf rfl
    have hf8 : f < 8 := by omega
    have ho : ¬ OOB (nI f) 8 := oob_nI hf8 (by decide)
    have z10 : ¬ (1 : Int32) = 0 := by decide
    subst e1 e2
    by_cases h1 : x2 < 1
    · refine ⟨-1, u2, u3, u4, uG, eN, eR, eS, mR, mB, hU, ?_, ?_⟩
      · unfold fX5_distance; simp only [a, Option.bind_some, if_neg z10, if_pos h1]
      · unfold fX6_distance; simp only [b, Option.bind_some, if_neg z10, if_pos h1]
    · by_cases h2 : x2 ≤ 200
      · have h00 : ¬ x2 < 0 := by
          intro q; apply h1
          rw [Int32.lt_iff_toInt_lt] at q ⊢
          have e0 : (0 : Int32).toInt = 0 := rfl
          have e1 : (1 : Int32).toInt = 1 := rfl
          rw [e0] at q; rw [e1]; omega
        obtain ⟨n, hn, rfl⟩ := nI_of2 (M := 200) (n := 200) rfl h00 h2
        have hn1 : 1 ≤ n := by
          rcases Nat.eq_zero_or_pos n with rfl | q
          · exact absurd (by decide) h1
          · exact q
        have hm := gq_dg p1
        have hod := gq_odd (w := w) (by omega) p2
        obtain ⟨r6, mR2, mB2, hd6, e6⟩ := sX6_distance (N := N) (k := k) (mR := mR) (mB := mB) hN hf8 b g1 g2 (by omega) w2 p1 rfl hod hn1 hn
        have hu : uG = lN (2 ^ w ^^^ P) → UOk (2 ^ w ^^^ P) u2 u3 u4 := by
          intro e
          have hlt : 2 ^ w ^^^ P < 2 ^ 63 := Nat.lt_of_lt_of_le hm.2 (pow_le_of_le (by omega))
          rcases hU with h0 | ⟨w', G', q1, q2, q3, q4⟩
          · rw [h0] at e
            have := (lE0 hlt).mp e.symm
            have := hm.pos; omega
          · have hlt2 : G' < 2 ^ 63 := Nat.lt_of_lt_of_le q1.2 (pow_le_of_le (by omega))
            rw [q3] at e
            rw [← (lEq hlt2 hlt).mp e]; exact q4
        obtain ⟨u2', u3', u4', eN', eR', eS', q1, q2⟩ := sX4_findFor (N := N) (eN := eN) (eR := eR) (eS := eS) hN hm hod (by omega) w2 hu
        obtain ⟨r5, hd5, e5⟩ := q1 N n hn
        have := hd5.uniq hd6
        subst this
        refine ⟨r5, u2', u3', u4', lN (2 ^ w ^^^ P), eN', eR', eS', mR2, mB2, Or.inr ⟨w, _, hm, w2, rfl, q1⟩, ?_, e6⟩
        unfold fX5_distance
        simp only [a, Option.bind_some, if_neg z10, if_neg h1, if_pos h2, if_neg ho, q2, e5]
      · refine ⟨-1, u2, u3, u4, uG, eN, eR, eS, mR, mB, hU, ?_, ?_⟩
        · unfold fX5_distance; simp only [a, Option.bind_some, if_neg z10, if_neg h1, if_neg h2]
        · unfold fX6_distance; simp only [b, Option.bind_some, if_neg z10, if_neg h1, if_neg h2]

/-! ===== what the functions of Polynomials answer ===== -/
abbrev Big (N : Nat) : Prop := 2 ^ 36 ≤ N
theorem nJ0 : nI 0 - 1 < 0 := by decide
theorem nJs (j : Nat) : nI (j + 1) - 1 = nI j := nI_pred j
theorem nJn (x : Int32) : x + (-1 : Int32) = x - 1 := (Int32.sub_eq_add_neg x 1).symm
theorem nJ_lt {j l : Nat} (hj : j < 2 ^ 30) (hl : l < 2 ^ 30) : nI j - 1 < nI l ↔ j ≤ l := by
  rw [Int32.lt_iff_toInt_lt, show nI j - 1 = nI j - nI 1 from rfl, pk_sub_toInt hj (by decide), nI_toInt (by omega)]
  omega
theorem n_le0 {a : Nat} (h0 : 0 < a) (h : a < 2 ^ 31) : ¬ nI a ≤ 0 := nI_nle h0 h
theorem n_lt0 {a : Nat} (h : a < 2 ^ 31) : ¬ nI a < 0 := nI_pos h
theorem n_ge0 {a : Nat} (h : a < 2 ^ 31) : 0 ≤ nI a := nI_pos' h
theorem sX2_degree_step {N p : Nat} {k : Int32 → Option Int32} (hp : p < 2 ^ 63) (j t n : Nat) (hj : j ≤ 5) (ht : t + 2 ^ j < 64) : fX2_degree_L13 N (lN p) k (n + 1) (nI t) (nI (2 ^ j)) = fX2_degree_L13 N (lN p) k n (nI (if p < 2 ^ (t + 2 ^ j) then t else t + 2 ^ j)) (nI (2 ^ j / 2)) := by
  rw [fX2_degree_L13_s, fX2_degree_B13]
  have h1 : 2 ^ j < 64 := by omega
  have h2 : 0 < 2 ^ j := Nat.two_pow_pos j
  have hpl : p / 2 ^ (t + 2 ^ j) ≤ p := Nat.div_le_self _ _
  have h31 : (64 : Nat) < 2 ^ 31 := by decide
  rw [if_neg (n_le0 h2 (by omega)), nI_add, lUs (by omega) ht, show (1 : Int32) = nI 1 from rfl, iSr (by omega) (by decide), Nat.pow_one]
  by_cases h : p < 2 ^ (t + 2 ^ j)
  · rw [if_pos ((lE0 (by omega)).mpr (Nat.div_eq_of_lt h)), if_pos h]
  · rw [if_neg (fun e => h ((Nat.div_eq_zero_iff_lt (Nat.two_pow_pos _)).mp ((lE0 (by omega)).mp e))), if_neg h]
theorem sX2_degree_L {N p : Nat} {k : Int32 → Option Int32} (hp : p < 2 ^ 63) : ∀ (j t n : Nat), j ≤ 5 → j + 2 ≤ n → 2 ^ t ≤ p → p < 2 ^ (t + 2 ^ (j + 1)) → t + 2 ^ (j + 1) ≤ 64 → ∃ d, Dg p d ∧ fX2_degree_L13 N (lN p) k n (nI t) (nI (2 ^ j)) = k (nI d) := by
  intro j
  induction j with
  | zero =>
    intro t n h0 hn h1 h2 h3
    obtain ⟨n, rfl⟩ : ∃ q, n = q + 2 := ⟨n - 2, by omega⟩
    rw [sX2_degree_step hp 0 t (n + 1) h0 (by simp at h3 ⊢; omega)]
    refine ⟨if p < 2 ^ (t + 2 ^ 0) then t else t + 2 ^ 0, ?_, ?_⟩
    · split
      · exact ⟨h1, by simpa using ‹_›⟩
      · refine ⟨by omega, by simpa using h2⟩
    · rw [fX2_degree_L13_s, fX2_degree_B13]
      rw [if_pos (by decide)]
  | succ j ih =>
    intro t n h0 hn h1 h2 h3
    obtain ⟨n, rfl⟩ : ∃ q, n = q + 1 := ⟨n - 1, by omega⟩
    have e : 2 ^ (j + 1 + 1) = 2 ^ (j + 1) + 2 ^ (j + 1) := by rw [Nat.pow_succ]; omega
    have hpos : 0 < 2 ^ (j + 1) := Nat.two_pow_pos _
    rw [sX2_degree_step hp (j + 1) t n h0 (by omega)]
    have e2 : 2 ^ (j + 1) / 2 = 2 ^ j := by rw [Nat.pow_succ]; omega
    rw [e2]
    by_cases h : p < 2 ^ (t + 2 ^ (j + 1))
    · rw [if_pos h]
      exact ih t n (by omega) (by omega) h1 h (by omega)
    · rw [if_neg h]
      refine ih _ n (by omega) (by omega) (by omega) ?_ (by omega)
      rw [Nat.add_assoc, ← e]; exact h2
theorem sX2_degree {N p : Nat} (hN : Big N) (h0 : 0 < p) (hp : p < 2 ^ 63) {d : Nat} (hd : Dg p d) : fX2_degree N (lN p) = some (nI d) := by
  unfold fX2_degree
  rw [if_neg (fun e => by have := (lE0 hp).mp e; omega)]
  obtain ⟨d2, h1, h2⟩ := sX2_degree_L (N := N) (p := p) (k := fun x => some x) hp 5 0 N (by decide) (by have : Big N := hN; unfold Big at this; omega) (by rw [Nat.pow_zero]; exact h0) (by simpa using Nat.lt_trans hp (by decide)) (by decide)
  rw [show (0 : Int32) = nI 0 from rfl, show (32 : Int32) = nI (2 ^ 5) from rfl, h2, hd.uniq h1]
theorem sX2_degree0 {N : Nat} : fX2_degree N (lN 0) = some (-1) := by unfold fX2_degree; rw [if_pos (show lN 0 = (0 : Int64) from rfl)]
theorem dg_lt {p d : Nat} (h : Dg p d) {k : Nat} (hp : p < 2 ^ k) : d < k := by
  rcases Nat.lt_or_ge d k with q | q
  · exact q
  · have := pow_le_of_le q; have := h.1; omega
theorem sX2_timesX {N p m d : Nat} (hm : Dg m d) (hd1 : 1 ≤ d) (hd : d ≤ 61) (hp : p < 2 ^ d) : fX2_timesX N (lN p) (lN m) (nI d) = some (lN (pmod (2 * p) m)) := by
  unfold fX2_timesX
  have h1 : 2 ^ (d + 1) ≤ 2 ^ 62 := pow_le_of_le (by omega)
  have h2 : 2 * p < 2 ^ (d + 1) := two_lt hp
  rw [show (1 : Int32) = nI 1 from rfl, lSh p (by decide), Nat.pow_one, Nat.mul_comm p 2]
  by_cases hb : (2 * p).testBit d = false
  · rw [if_pos ((lBit (by omega) (by omega)).mpr hb)]
    have h3 : 2 * p < 2 ^ d := by
      apply Nat.lt_pow_two_of_testBit
      intro i hi
      rcases Nat.eq_or_lt_of_le hi with rfl | h
      · exact hb
      · exact Nat.testBit_lt_two_pow (Nat.lt_of_lt_of_le h2 (pow_le_of_le h))
    rw [pmod_eq hm h3 Cg.rfl']
  · rw [if_neg (fun e => hb ((lBit (by omega) (by omega)).mp e)), lX]
    have h3 : 2 ^ d ≤ 2 * p := Nat.ge_two_pow_of_testBit (by simpa using hb)
    rw [pmod_eq hm (xor_drop h3 h2 hm.1 hm.2)]
    unfold Cg
    rw [Nat.xor_comm (2 * p), Nat.xor_assoc, Nat.xor_self, Nat.xor_zero]
    exact Dv.rfl' m
theorem shr_step (q j : Nat) : q / 2 ^ j = 2 * (q / 2 ^ (j + 1)) + (q.testBit j).toNat := by
  rw [Nat.toNat_testBit, Nat.pow_succ, ← Nat.div_div_eq_div_mul]; omega
theorem pmul_shr (p q j : Nat) : pmul p (q / 2 ^ j) = (2 * pmul p (q / 2 ^ (j + 1))) ^^^ (if q.testBit j then p else 0) := by
  rw [shr_step]
  cases q.testBit j with
  | false => simp [pmul_even]
  | true => simp only [Bool.toNat_true, if_true, pmul_odd]; rw [Nat.xor_comm]
theorem cg_2 {m a b : Nat} (h : Cg m a b) : Cg m (2 * a) (2 * b) := by
  rw [← pmul_2r, ← pmul_2r]; exact h.mul Cg.rfl'
theorem sX2_product_L {N p q m d : Nat} {k : Int64 → Option Int64} (hm : Dg m d) (hd1 : 1 ≤ d) (hd : d ≤ 61) (hp : p < 2 ^ d) (hq : q < 2 ^ d) : ∀ (j n all : Nat), j < n → j ≤ d → all < 2 ^ d → Cg m all (pmul p (q / 2 ^ j)) → fX2_product_L16 N (lN p) (lN q) (lN m) (nI d) k n (lN all) (nI j - 1) = k (lN (pmod (pmul p q) m)) := by
  intro j
  have h62 : 2 ^ d ≤ 2 ^ 61 := pow_le_of_le hd
  induction j with
  | zero =>
    intro n all hn _ ha hc
    obtain ⟨n, rfl⟩ : ∃ z, n = z + 1 := ⟨n - 1, by omega⟩
    rw [fX2_product_L16_s, fX2_product_B16]
    rw [if_pos nJ0]
    rw [Nat.pow_zero, Nat.div_one] at hc
    rw [pmod_eq hm ha hc]
  | succ j ih =>
    intro n all hn hj ha hc
    obtain ⟨n, rfl⟩ : ∃ z, n = z + 1 := ⟨n - 1, by omega⟩
    rw [fX2_product_L16_s, fX2_product_B16]
    have h31 : (64 : Nat) < 2 ^ 31 := by decide
    rw [nJs, if_neg (n_lt0 (by omega)), sX2_timesX hm hd1 hd ha, Option.bind_some, nJn]
    have hc2 : Cg m (pmod (2 * all) m) (2 * pmul p (q / 2 ^ (j + 1))) := (pmod_cg _ _).trans (cg_2 hc)
    by_cases hb : q.testBit j = false
    · rw [if_pos ((lBit (by omega) (by omega)).mpr hb)]
      refine ih n _ (by omega) (by omega) (pmod_lt hm _) ?_
      rw [pmul_shr, hb]
      simpa using hc2
    · rw [if_neg (fun e => hb ((lBit (by omega) (by omega)).mp e)), lX]
      refine ih n _ (by omega) (by omega) (Nat.xor_lt_two_pow (pmod_lt hm _) hp) ?_
      rw [pmul_shr, if_pos (by simpa using hb)]
      exact hc2.xor Cg.rfl'
theorem sX2_product {N p q m d : Nat} (hN : Big N) (hm : Dg m d) (hd1 : 1 ≤ d) (hd : d ≤ 61) (hp : p < 2 ^ d) (hq : q < 2 ^ d) : fX2_product N (lN p) (lN q) (lN m) = some (lN (pmod (pmul p q) m)) := by
  unfold fX2_product
  have h1 : 2 ^ (d + 1) ≤ 2 ^ 62 := pow_le_of_le (by omega)
  have hb := hm.2
  rw [sX2_degree hN hm.pos (by omega) hm, Option.bind_some]
  have hN' : 2 ^ 36 ≤ N := hN
  refine sX2_product_L (k := fun x => some x) hm hd1 hd hp hq d N 0 (by omega) (Nat.le_refl _) (Nat.two_pow_pos d) ?_
  rw [Nat.div_eq_of_lt hq, pmul_0]; exact Cg.rfl'
theorem sX2_remainder_L {N p v l : Nat} {k : Int64 → Option Int64} (hv : Dg v l) (hl : l ≤ 61) : ∀ (i n rest : Nat), i < n → l + i ≤ 63 → rest < 2 ^ (l + i) → Cg v rest p → fX2_remainder_L22 N (lN v) (nI l) k n (lN rest) (nI (l + i) - 1) = k (lN (pmod p v)) := by
  intro i
  induction i with
  | zero =>
    intro n rest hn hi hr hc
    obtain ⟨n, rfl⟩ : ∃ z, n = z + 1 := ⟨n - 1, by omega⟩
    rw [fX2_remainder_L22_s, fX2_remainder_B22]
    rw [if_pos ((nJ_lt (by omega) (by omega)).mpr (by omega)), pmod_eq hv hr hc]
  | succ i ih =>
    intro n rest hn hi hr hc
    obtain ⟨n, rfl⟩ : ∃ z, n = z + 1 := ⟨n - 1, by omega⟩
    rw [fX2_remainder_L22_s, fX2_remainder_B22]
    have hr63 : 2 ^ (l + (i + 1)) ≤ 2 ^ 63 := pow_le_of_le (by omega)
    rw [if_neg (fun e => by have := (nJ_lt (by omega) (by omega)).mp e; omega), show l + (i + 1) = l + i + 1 by omega, nJs, nJn]
    by_cases hb : rest.testBit (l + i) = false
    · rw [if_pos ((lBit (by omega) (by omega)).mpr hb)]
      refine ih n rest (by omega) (by omega) ?_ hc
      apply Nat.lt_pow_two_of_testBit
      intro z hz
      rcases Nat.eq_or_lt_of_le hz with rfl | h
      · exact hb
      · exact Nat.testBit_lt_two_pow (Nat.lt_of_lt_of_le hr (pow_le_of_le (by omega)))
    · rw [if_neg (fun e => hb ((lBit (by omega) (by omega)).mp e)), nSub (by omega), show l + i - l = i by omega, lSh v (by omega), lX]
      have h3 : 2 ^ (l + i) ≤ rest := Nat.ge_two_pow_of_testBit (by simpa using hb)
      have h4 : Dg (v * 2 ^ i) (l + i) := by
        rw [← pmul_pow]
        exact hv.mul ⟨Nat.le_refl _, pow_lt_of_lt (by omega)⟩
      refine ih n _ (by omega) (by omega) (xor_drop h3 (by rw [show l + i + 1 = l + (i + 1) by omega]; exact hr) h4.1 h4.2) ?_
      have h5 : Cg v (v * 2 ^ i) 0 := by rw [cg_0, ← pmul_pow]; exact (Dv.rfl' v).mulr _
      have := hc.xor h5
      rwa [Nat.xor_zero] at this
theorem sX2_remainder {N p v l : Nat} (hN : Big N) (hp : p < 2 ^ 62) (hv : Dg v l) (hl : l ≤ 61) : fX2_remainder N (lN p) (lN v) = some (lN (pmod p v)) := by
  unfold fX2_remainder
  have h1 : 2 ^ (l + 1) ≤ 2 ^ 62 := pow_le_of_le (by omega)
  have hvb := hv.2
  have hN' : 2 ^ 36 ≤ N := hN
  rw [sX2_degree hN hv.pos (by omega) hv, Option.bind_some, if_pos (n_ge0 (by omega))]
  rcases Nat.eq_zero_or_pos p with rfl | h0
  · rw [sX2_degree0, Option.bind_some]
    have : (-1 : Int32) = nI 0 - 1 := by decide
    rw [this]
    obtain ⟨n, rfl⟩ : ∃ z, N = z + 1 := ⟨N - 1, by omega⟩
    rw [fX2_remainder_L22_s, fX2_remainder_B22]
    rw [if_pos ((nJ_lt (by omega) (by omega)).mpr (by omega)), pmod_eq hv (Nat.two_pow_pos l) Cg.rfl']
  · obtain ⟨d, hd⟩ := dg_ex h0
    have hd62 := dg_lt hd hp
    rw [sX2_degree hN h0 (by omega) hd, Option.bind_some]
    rcases Nat.lt_or_ge d l with q | q
    · obtain ⟨n, rfl⟩ : ∃ z, N = z + 1 := ⟨N - 1, by omega⟩
      rw [fX2_remainder_L22_s, fX2_remainder_B22]
      rw [if_pos (nI_lt q (by omega)), pmod_eq hv (Nat.lt_of_lt_of_le hd.2 (pow_le_of_le q)) Cg.rfl']
    · have := sX2_remainder_L (N := N) (p := p) (k := fun x => some x) hv hl (d + 1 - l) N p (by omega) (by omega) (by rw [show l + (d + 1 - l) = d + 1 by omega]; exact hd.2) Cg.rfl'
      rw [show l + (d + 1 - l) = d + 1 by omega, nJs] at this
      exact this
theorem or_xor_pow {t i : Nat} : (t * 2 ^ (i + 1)) ||| 2 ^ i = (t * 2 ^ (i + 1)) ^^^ 2 ^ i := by
  apply Nat.eq_of_testBit_eq
  intro z
  rw [Nat.testBit_or, Nat.testBit_xor, Nat.testBit_two_pow, Nat.testBit_mul_two_pow]
  by_cases h : i = z
  · subst h; simp
  · simp [h]
theorem sX2_quotient_L {N p v l : Nat} {k : Int64 → Option Int64} (hv : Dg v l) (hl : l ≤ 61) : ∀ (i n rest t : Nat), i < n → l + i ≤ 63 → rest < 2 ^ (l + i) → p = pmul (t * 2 ^ i) v ^^^ rest → ∃ q, p = pmul q v ^^^ pmod p v ∧ fX2_quotient_L25 N (lN v) (nI l) k n (lN rest) (lN (t * 2 ^ i)) (nI (l + i) - 1) = k (lN q) := by
  intro i
  induction i with
  | zero =>
    intro n rest t hn hi hr hc
    obtain ⟨n, rfl⟩ : ∃ z, n = z + 1 := ⟨n - 1, by omega⟩
    have hcg : Cg v rest p := by
      unfold Cg
      rw [hc, Nat.xor_comm, Nat.xor_assoc, Nat.xor_self, Nat.xor_zero]
      exact (Dv.rfl' v).mull _
    refine ⟨t * 2 ^ 0, ?_, ?_⟩
    · rw [pmod_eq hv hr hcg]; exact hc
    · rw [fX2_quotient_L25_s, fX2_quotient_B25]
      rw [if_pos ((nJ_lt (by omega) (by omega)).mpr (by omega))]
  | succ i ih =>
    intro n rest t hn hi hr hc
    obtain ⟨n, rfl⟩ : ∃ z, n = z + 1 := ⟨n - 1, by omega⟩
    have hr63 : 2 ^ (l + (i + 1)) ≤ 2 ^ 63 := pow_le_of_le (by omega)
    have step : fX2_quotient_L25 N (lN v) (nI l) k (n + 1) (lN rest) (lN (t * 2 ^ (i + 1))) (nI (l + (i + 1)) - 1) = if rest.testBit (l + i) = false then fX2_quotient_L25 N (lN v) (nI l) k n (lN rest) (lN ((2 * t) * 2 ^ i)) (nI (l + i) - 1) else fX2_quotient_L25 N (lN v) (nI l) k n (lN (rest ^^^ v * 2 ^ i)) (lN ((2 * t + 1) * 2 ^ i)) (nI (l + i) - 1) := by
      rw [fX2_quotient_L25_s, fX2_quotient_B25]
      rw [if_neg (fun e => by have := (nJ_lt (by omega) (by omega)).mp e; omega), show l + (i + 1) = l + i + 1 by omega, nJs, nJn]
      have e2 : t * 2 ^ (i + 1) = (2 * t) * 2 ^ i := by rw [Nat.pow_succ]; rw [Nat.mul_comm (2 ^ i) 2, ← Nat.mul_assoc, Nat.mul_comm t 2]
      by_cases hb : rest.testBit (l + i) = false
      · rw [if_pos ((lBit (by omega) (by omega)).mpr hb), if_pos hb, e2]
      · rw [if_neg (fun e => hb ((lBit (by omega) (by omega)).mp e)), if_neg hb, nSub (by omega), show l + i - l = i by omega, lSh v (by omega), lX, show (1 : Int64) = lN 1 from rfl, lSh 1 (by omega), lO, Nat.one_mul, or_xor_pow]
        have e3 : t * 2 ^ (i + 1) ^^^ 2 ^ i = (2 * t + 1) * 2 ^ i := by
          rw [e2, ← pmul_pow (2 * t), ← pmul_pow (2 * t + 1), x1, pmul_xl, pmul_1l, Nat.xor_comm]
        rw [e3]
    rw [step]
    by_cases hb : rest.testBit (l + i) = false
    · rw [if_pos hb]
      refine ih n rest (2 * t) (by omega) (by omega) ?_ ?_
      · apply Nat.lt_pow_two_of_testBit
        intro z hz
        rcases Nat.eq_or_lt_of_le hz with rfl | h
        · exact hb
        · exact Nat.testBit_lt_two_pow (Nat.lt_of_lt_of_le hr (pow_le_of_le (by omega)))
      · rw [hc]; congr 2; rw [Nat.pow_succ, Nat.mul_comm (2 ^ i) 2, ← Nat.mul_assoc, Nat.mul_comm t 2]
    · rw [if_neg hb]
      have h3 : 2 ^ (l + i) ≤ rest := Nat.ge_two_pow_of_testBit (by simpa using hb)
      have h4 : Dg (v * 2 ^ i) (l + i) := by
        rw [← pmul_pow]
        exact hv.mul ⟨Nat.le_refl _, pow_lt_of_lt (by omega)⟩
      refine ih n _ (2 * t + 1) (by omega) (by omega) (xor_drop h3 (by rw [show l + i + 1 = l + (i + 1) by omega]; exact hr) h4.1 h4.2) ?_
      have e3 : (2 * t + 1) * 2 ^ i = t * 2 ^ (i + 1) ^^^ 2 ^ i := by
        have e2 : t * 2 ^ (i + 1) = (2 * t) * 2 ^ i := by rw [Nat.pow_succ]; rw [Nat.mul_comm (2 ^ i) 2, ← Nat.mul_assoc, Nat.mul_comm t 2]
        rw [e2, ← pmul_pow (2 * t), ← pmul_pow (2 * t + 1), x1, pmul_xl, pmul_1l, Nat.xor_comm]
      rw [e3, pmul_xl, hc, pmul_comm (2 ^ i) v, pmul_pow]
      rw [Nat.xor_assoc, Nat.xor_comm rest, ← Nat.xor_assoc (v * 2 ^ i), Nat.xor_self, Nat.zero_xor]
theorem sX2_quotient {N p v l : Nat} (hN : Big N) (hp0 : 0 < p) (hp : p < 2 ^ 62) (hv : Dg v l) (hl : l ≤ 61) : ∃ q, p = pmul q v ^^^ pmod p v ∧ fX2_quotient N (lN p) (lN v) = some (lN q) := by
  unfold fX2_quotient
  have h1 : 2 ^ (l + 1) ≤ 2 ^ 62 := pow_le_of_le (by omega)
  have hvb := hv.2
  have hN' : 2 ^ 36 ≤ N := hN
  rw [sX2_degree hN hv.pos (by omega) hv, Option.bind_some, if_pos (n_ge0 (by omega))]
  obtain ⟨d, hd⟩ := dg_ex hp0
  have hd62 := dg_lt hd hp
  rw [sX2_degree hN hp0 (by omega) hd, Option.bind_some]
  rcases Nat.lt_or_ge d l with q | q
  · refine ⟨0, ?_, ?_⟩
    · rw [pmul_0l, Nat.zero_xor, pmod_eq hv (Nat.lt_of_lt_of_le hd.2 (pow_le_of_le q)) Cg.rfl']
    · obtain ⟨n, rfl⟩ : ∃ z, N = z + 1 := ⟨N - 1, by omega⟩
      rw [fX2_quotient_L25_s, fX2_quotient_B25]
      rw [if_pos (nI_lt q (by omega))]; rfl
  · have := sX2_quotient_L (N := N) (p := p) (k := fun x => some x) hv hl (d + 1 - l) N p 0 (by omega) (by omega) (by rw [show l + (d + 1 - l) = d + 1 by omega]; exact hd.2) (by rw [Nat.zero_mul, pmul_0l, Nat.zero_xor])
    rw [show l + (d + 1 - l) = d + 1 by omega, nJs, Nat.zero_mul] at this
    exact this
theorem sX2_gcd_L {N : Nat} {k : Int64 → Option Int64} (hN : Big N) : ∀ (b n r one other : Nat), b < n → r + b < 64 → one < 2 ^ 61 → other < 2 ^ 61 → other < 2 ^ b → 0 < one ∨ 0 < other → ∃ g, fX2_greatestCommon_L9 N k n (lN one) (lN other) (nI r) = k (lN g) ∧ 0 < g ∧ g < 2 ^ 61 ∧ Dv g one ∧ Dv g other ∧ ∀ h, Dv h one → Dv h other → Dv h g := by
  intro b
  induction b with
  | zero =>
    intro n r one other hn hr h1 h2 h3 h4
    obtain ⟨n, rfl⟩ : ∃ z, n = z + 1 := ⟨n - 1, by omega⟩
    have h0 : other = 0 := by simpa using h3
    subst h0
    refine ⟨one, ?_, by omega, h1, Dv.rfl' _, Dv.zero _, fun h a _ => a⟩
    rw [fX2_greatestCommon_L9_s, fX2_greatestCommon_B9]
    rw [if_neg (show ¬ (64 : Int32) ≤ nI r from nI_ge (show r < 64 by omega) (by decide)), if_pos (show lN 0 = (0 : Int64) from rfl)]
  | succ b ih =>
    intro n r one other hn hr h1 h2 h3 h4
    obtain ⟨n, rfl⟩ : ∃ z, n = z + 1 := ⟨n - 1, by omega⟩
    rcases Nat.eq_zero_or_pos other with rfl | ho
    · refine ⟨one, ?_, by omega, h1, Dv.rfl' _, Dv.zero _, fun h a _ => a⟩
      rw [fX2_greatestCommon_L9_s, fX2_greatestCommon_B9]
      rw [if_neg (show ¬ (64 : Int32) ≤ nI r from nI_ge (show r < 64 by omega) (by decide)), if_pos (show lN 0 = (0 : Int64) from rfl)]
    · obtain ⟨d, hd⟩ := dg_ex ho
      have hdb := dg_lt hd h3
      have hd61 := dg_lt hd h2
      have hm := pmod_lt hd one
      have hmb : pmod one other < 2 ^ b := Nat.lt_of_lt_of_le hm (pow_le_of_le (by omega))
      have hm61 : pmod one other < 2 ^ 61 := Nat.lt_of_lt_of_le hm (pow_le_of_le (by omega))
      obtain ⟨g, e, g0, g1, g2, g3, g4⟩ := ih n (r + 1) other (pmod one other) (by omega) (by omega) h2 hm61 hmb (Or.inl ho)
      have hcg := pmod_cg one other
      refine ⟨g, ?_, g0, g1, ?_, g2, ?_⟩
      · rw [fX2_greatestCommon_L9_s, fX2_greatestCommon_B9]
        rw [if_neg (show ¬ (64 : Int32) ≤ nI r from nI_ge (show r < 64 by omega) (by decide)), if_neg (fun z => by have := (lE0 (by omega)).mp z; omega), sX2_remainder hN (by omega) hd (by omega), Option.bind_some, nI_1]
        exact e
      · exact (hcg.symm.low g2).dv g3
      · intro h a1 a2
        exact g4 h a2 ((hcg.low a2).dv a1)
theorem sX2_gcd {N p q : Nat} (hN : Big N) (hp : p < 2 ^ 61) (hq : q < 2 ^ 61) (h0 : 0 < p ∨ 0 < q) : ∃ g, fX2_greatestCommon N (lN p) (lN q) = some (lN g) ∧ 0 < g ∧ g < 2 ^ 61 ∧ Dv g p ∧ Dv g q ∧ ∀ h, Dv h p → Dv h q → Dv h g := by
  unfold fX2_greatestCommon
  have hN' : 2 ^ 36 ≤ N := hN
  exact sX2_gcd_L (k := fun x => some x) hN 61 N 0 p q (by omega) (by decide) hp hq hq h0
theorem sX2_powerOfX_L {N a m d : Nat} {k : Int64 → Option Int64} (hN : Big N) (hm : Dg m d) (hd1 : 1 ≤ d) (hd : d ≤ 61) (ha : a < 2 ^ 63) : ∀ (j n pw : Nat), j < n → j ≤ 63 → pw < 2 ^ d → Cg m pw (ppow 2 (a / 2 ^ j)) → fX2_powerOfX_L15 N (lN a) (lN m) (nI d) k n (lN pw) (nI j - 1) = k (lN (pmod (ppow 2 a) m)) := by
  intro j
  induction j with
  | zero =>
    intro n pw hn _ hpw hc
    obtain ⟨n, rfl⟩ : ∃ z, n = z + 1 := ⟨n - 1, by omega⟩
    rw [fX2_powerOfX_L15_s, fX2_powerOfX_B15]
    rw [Nat.pow_zero, Nat.div_one] at hc
    rw [if_pos nJ0, pmod_eq hm hpw hc]
  | succ j ih =>
    intro n pw hn hj hpw hc
    obtain ⟨n, rfl⟩ : ∃ z, n = z + 1 := ⟨n - 1, by omega⟩
    rw [fX2_powerOfX_L15_s, fX2_powerOfX_B15]
    rw [nJs, if_neg (n_lt0 (by omega)), sX2_product hN hm hd1 hd hpw hpw, Option.bind_some, nJn]
    have hc2 : Cg m (pmod (pmul pw pw) m) (ppow 2 (2 * (a / 2 ^ (j + 1)))) := by
      rw [Nat.two_mul, ppow_add]
      exact (pmod_cg _ _).trans (hc.mul hc)
    have hs := shr_step a j
    by_cases hb : a.testBit j = false
    · rw [if_pos ((lBit (by omega) (by omega)).mpr hb)]
      refine ih n _ (by omega) (by omega) (pmod_lt hm _) ?_
      rw [hs, hb]; exact hc2
    · rw [if_neg (fun e => hb ((lBit (by omega) (by omega)).mp e)), sX2_timesX hm hd1 hd (pmod_lt hm _), Option.bind_some]
      refine ih n _ (by omega) (by omega) (pmod_lt hm _) ?_
      rw [hs, show a.testBit j = true by simpa using hb, Bool.toNat_true]
      show Cg m _ (pmul (ppow 2 _) 2)
      rw [pmul_2r]
      exact (pmod_cg _ _).trans (cg_2 hc2)
theorem sX2_powerOfX {N a m d : Nat} (hN : Big N) (hm : Dg m d) (hd1 : 1 ≤ d) (hd : d ≤ 61) (ha : a < 2 ^ 62) : fX2_powerOfX N (lN a) (lN m) = some (lN (pmod (ppow 2 a) m)) := by
  unfold fX2_powerOfX
  have h1 : 2 ^ (d + 1) ≤ 2 ^ 62 := pow_le_of_le (by omega)
  have hb := hm.2
  have hN' : 2 ^ 36 ≤ N := hN
  have h2d : 2 ^ 1 ≤ 2 ^ d := pow_le_of_le hd1
  rw [sX2_degree hN hm.pos (by omega) hm, Option.bind_some]
  rcases Nat.eq_zero_or_pos a with rfl | h0
  · rw [sX2_degree0, Option.bind_some]
    have : (-1 : Int32) = nI 0 - 1 := by decide
    rw [this]
    exact sX2_powerOfX_L (k := fun x => some x) hN hm hd1 hd (by decide) 0 N 1 (by omega) (by decide) (by omega) Cg.rfl'
  · obtain ⟨e, he⟩ := dg_ex h0
    have he62 := dg_lt he ha
    rw [sX2_degree hN h0 (by omega) he, Option.bind_some]
    have := sX2_powerOfX_L (N := N) (a := a) (k := fun x => some x) hN hm hd1 hd (by omega) (e + 1) N 1 (by omega) (by omega) (by omega) (by rw [Nat.div_eq_of_lt he.2]; exact Cg.rfl')
    rw [nJs] at this
    exact this
theorem sX2_trace_L {N h m d tm : Nat} {k : Int64 → Option Int64} (hN : Big N) (hm : Dg m d) (hd1 : 1 ≤ d) (hd : d ≤ 61) (htm : tm < 2 ^ 30) : ∀ (j n c tr al : Nat), j < n → c + j = tm → 1 ≤ c → tr < 2 ^ d → al < 2 ^ d → Cg m tr (ppow h (2 ^ (c - 1))) → Cg m al (ptr h c) → fX2_trace_L9 N (nI tm) (lN m) k n (lN tr) (lN al) (nI c) = k (lN (pmod (ptr h tm) m)) := by
  intro j
  induction j with
  | zero =>
    intro n c tr al hn hc h1 ht ha e1 e2
    obtain ⟨n, rfl⟩ : ∃ z, n = z + 1 := ⟨n - 1, by omega⟩
    rw [fX2_trace_L9_s, fX2_trace_B9]
    have : c = tm := by omega
    subst this
    rw [if_pos (nI_le (Nat.le_refl _) (by omega)), pmod_eq hm ha e2]
  | succ j ih =>
    intro n c tr al hn hc h1 ht ha e1 e2
    obtain ⟨n, rfl⟩ : ∃ z, n = z + 1 := ⟨n - 1, by omega⟩
    rw [fX2_trace_L9_s, fX2_trace_B9]
    rw [if_neg (nI_ge (by omega) (by omega)), sX2_product hN hm hd1 hd ht ht, Option.bind_some, lX, nI_1]
    have e3 : Cg m (pmod (pmul tr tr) m) (ppow h (2 ^ c)) := by
      obtain ⟨c', rfl⟩ : ∃ c', c = c' + 1 := ⟨c - 1, by omega⟩
      rw [ppow_sq]
      exact (pmod_cg _ _).trans (e1.mul e1)
    exact ih n (c + 1) _ _ (by omega) (by omega) (by omega) (pmod_lt hm _) (Nat.xor_lt_two_pow ha (pmod_lt hm _)) e3 (e2.xor e3)
theorem sX2_trace {N h m d tm : Nat} (hN : Big N) (hm : Dg m d) (hd1 : 1 ≤ d) (hd : d ≤ 61) (htm : tm < 2 ^ 30) (ht1 : 1 ≤ tm) (hh : h < 2 ^ d) : fX2_trace N (lN h) (nI tm) (lN m) = some (lN (pmod (ptr h tm) m)) := by
  unfold fX2_trace
  have hN' : 2 ^ 36 ≤ N := hN
  have e0 : ppow h (2 ^ (1 - 1)) = h := by rw [show 2 ^ (1 - 1) = 1 from rfl, ppow_1]
  have e1 : ptr h 1 = h := by show 0 ^^^ ppow h 1 = h; rw [ppow_1, Nat.zero_xor]
  exact sX2_trace_L (k := fun x => some x) hN hm hd1 hd htm (tm - 1) N 1 h h (by omega) (by omega) (Nat.le_refl _) hh hh (Cg.of_eq e0.symm) (Cg.of_eq e1.symm)

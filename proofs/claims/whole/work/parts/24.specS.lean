/-! ===== registers and sums: what the functions of Form and of the reference answer ===== -/
theorem gq_dg {w P : Nat} (h : P < 2 ^ w) : Dg (2 ^ w ^^^ P) w := xor_ge (Nat.le_refl _) (pow_lt_of_lt (by omega)) h
theorem add_xor {w a : Nat} (h : a < 2 ^ w) : 2 ^ w + a = 2 ^ w ^^^ a := by
  apply Nat.eq_of_testBit_eq
  intro i
  rw [Nat.testBit_xor, Nat.testBit_two_pow]
  rcases Nat.lt_trichotomy i w with z | z | z
  · rw [Nat.testBit_two_pow_add_gt z, decide_eq_false (by omega), Bool.false_xor]
  · subst z; rw [Nat.testBit_two_pow_add_eq, Nat.testBit_lt_two_pow h]; simp
  · have hp : 2 ^ (w + 1) ≤ 2 ^ i := pow_le_of_le z
    have : 2 ^ (w + 1) = 2 ^ w + 2 ^ w := by rw [Nat.pow_succ]; omega
    rw [Nat.testBit_lt_two_pow (show a < 2 ^ i by omega), Nat.testBit_lt_two_pow (show 2 ^ w + a < 2 ^ i by omega), decide_eq_false (by omega)]; rfl
theorem or_xor {w a : Nat} (h : a < 2 ^ w) : 2 ^ w ||| a = 2 ^ w ^^^ a := by
  rw [← add_xor h, Nat.or_comm, Nat.or_two_pow_eq_add_of_lt h, Nat.add_comm]
theorem pmod2_hi {w P r : Nat} (hw : 1 ≤ w) (hP : P < 2 ^ w) (hr : r < 2 ^ w) (hb : r.testBit (w - 1) = true) : pmod (2 * r) (2 ^ w ^^^ P) = (2 * r % 2 ^ w) ^^^ P := by
  have h1 : 2 ^ (w - 1) ≤ r := Nat.ge_two_pow_of_testBit hb
  have h2 : 2 ^ w = 2 * 2 ^ (w - 1) := by conv => lhs; rw [show w = (w - 1) + 1 by omega, Nat.pow_succ]; rw [Nat.mul_comm]
  have h3 : 2 * r % 2 ^ w = 2 * r - 2 ^ w := by
    rw [Nat.mod_eq_sub_mod (by omega), Nat.mod_eq_of_lt (by omega)]
  have h4 : 2 * r % 2 ^ w < 2 ^ w := Nat.mod_lt _ (Nat.two_pow_pos w)
  have h5 : 2 * r = 2 ^ w ^^^ (2 * r % 2 ^ w) := by rw [← add_xor h4]; omega
  refine pmod_eq (gq_dg hP) (Nat.xor_lt_two_pow h4 hP) ?_
  unfold Cg
  have aux : ∀ M Q P : Nat, (M ^^^ P) ^^^ (Q ^^^ M) = Q ^^^ P := by
    intro M Q P
    rw [Nat.xor_comm Q M, xswap, Nat.xor_self, Nat.zero_xor, Nat.xor_comm]
  have h6 : (2 * r % 2 ^ w ^^^ P) ^^^ 2 * r = 2 ^ w ^^^ P := by
    have := aux (2 * r % 2 ^ w) (2 ^ w) P
    rwa [← h5] at this
  rw [h6]
  exact Dv.rfl' _
theorem pmod2_lo {w P r : Nat} (hw : 1 ≤ w) (hP : P < 2 ^ w) (hr : r < 2 ^ w) (hb : r.testBit (w - 1) = false) : pmod (2 * r) (2 ^ w ^^^ P) = 2 * r % 2 ^ w := by
  have h1 : r < 2 ^ (w - 1) := by
    apply Nat.lt_pow_two_of_testBit
    intro i hi
    rcases Nat.eq_or_lt_of_le hi with rfl | h
    · exact hb
    · exact Nat.testBit_lt_two_pow (Nat.lt_of_lt_of_le hr (pow_le_of_le (by omega)))
  have h2 : 2 ^ w = 2 * 2 ^ (w - 1) := by conv => lhs; rw [show w = (w - 1) + 1 by omega, Nat.pow_succ]; rw [Nat.mul_comm]
  have h3 : 2 * r % 2 ^ w = 2 * r := Nat.mod_eq_of_lt (by omega)
  rw [h3]
  exact pmod_eq (gq_dg hP) (by omega) Cg.rfl'
theorem sX6_up {N f w P r : Nat} {mW : Nat → Int32} {mP : Nat → Int64} (hf : f < 8) (hW : mW f = nI w) (hQ : mP f = lN P) (hw1 : 1 ≤ w) (hw : w ≤ 32) (hP : P < 2 ^ w) (hr : r < 2 ^ w) : fX6_up N mW mP (nI f) (lN r) = some (lN (pmod (2 * r) (2 ^ w ^^^ P))) := by
  unfold fX6_up
  have ho : ¬ OOB (nI f) 8 := oob_nI hf (by decide)
  have hw32 : 2 ^ w ≤ 2 ^ 32 := pow_le_of_le hw
  simp only [if_neg ho, nCl (show f < 2 ^ 31 by omega), hW, hQ]
  have e1 : nI w - (1 : Int32) = nI (w - 1) := nSub hw1
  have e2 : lShl (lN r) (1 : Int32) &&& (lShl (1 : Int64) (nI w) - (1 : Int64)) = lN (2 * r % 2 ^ w) := by
    rw [show (1 : Int32) = nI 1 from rfl, show (1 : Int64) = lN 1 from rfl, lSh r (by decide), lSh 1 (by omega), Nat.one_mul, lN_sub (Nat.two_pow_pos w), lA, Nat.and_two_pow_sub_one_eq_mod, Nat.pow_one, Nat.mul_comm]
  rw [e1, e2]
  by_cases hb : r.testBit (w - 1) = true
  · rw [if_pos ((lBitR (by omega) (by omega)).mpr hb), lX, pmod2_hi hw1 hP hr hb]
  · rw [if_neg (fun e => hb ((lBitR (by omega) (by omega)).mp e)), pmod2_lo hw1 hP hr (by simpa using hb)]
theorem sX6_times_L {N f w P a b : Nat} {mW : Nat → Int32} {mP : Nat → Int64} {k : Int64 → Option Int64} (hf : f < 8) (hW : mW f = nI w) (hQ : mP f = lN P) (hw1 : 1 ≤ w) (hw : w ≤ 32) (hP : P < 2 ^ w) (ha : a < 2 ^ w) (hb : b < 2 ^ w) : ∀ (j n al : Nat), j < n → j ≤ w → al < 2 ^ w → Cg (2 ^ w ^^^ P) al (pmul a (b / 2 ^ j)) → fX6_times_L13 N mW mP (nI f) (lN a) (lN b) k n (lN al) (nI j - 1) = k (lN (pmod (pmul a b) (2 ^ w ^^^ P))) := by
  intro j
  have hw32 : 2 ^ w ≤ 2 ^ 32 := pow_le_of_le hw
  have hm := gq_dg hP
  induction j with
  | zero =>
    intro n al hn _ hal hc
    obtain ⟨n, rfl⟩ : ∃ z, n = z + 1 := ⟨n - 1, by omega⟩
    rw [fX6_times_L13_s, fX6_times_B13, if_pos nJ0]
    rw [Nat.pow_zero, Nat.div_one] at hc
    rw [pmod_eq hm hal hc]
  | succ j ih =>
    intro n al hn hj hal hc
    obtain ⟨n, rfl⟩ : ∃ z, n = z + 1 := ⟨n - 1, by omega⟩
    rw [fX6_times_L13_s, fX6_times_B13, nJs, if_neg (n_lt0 (by omega)), sX6_up hf hW hQ hw1 hw hP hal, Option.bind_some, nJn, show (0 : Int64) = lN 0 from rfl, lX, lX, Nat.xor_zero]
    have hc2 : Cg (2 ^ w ^^^ P) (pmod (2 * al) (2 ^ w ^^^ P)) (2 * pmul a (b / 2 ^ (j + 1))) := (pmod_cg _ _).trans (cg_2 hc)
    by_cases ht : b.testBit j = true
    · rw [if_pos ((lBitR (by omega) (by omega)).mpr ht)]
      refine ih n _ (by omega) (by omega) (Nat.xor_lt_two_pow (pmod_lt hm _) ha) ?_
      rw [pmul_shr, if_pos ht]
      exact hc2.xor Cg.rfl'
    · rw [if_neg (fun e => ht ((lBitR (by omega) (by omega)).mp e))]
      refine ih n _ (by omega) (by omega) (pmod_lt hm _) ?_
      rw [pmul_shr, if_neg ht, Nat.xor_zero]; exact hc2
theorem sX6_times {N f w P a b : Nat} {mW : Nat → Int32} {mP : Nat → Int64} (hN : Big N) (hf : f < 8) (hW : mW f = nI w) (hQ : mP f = lN P) (hw1 : 1 ≤ w) (hw : w ≤ 32) (hP : P < 2 ^ w) (ha : a < 2 ^ w) (hb : b < 2 ^ w) : fX6_times N mW mP (nI f) (lN a) (lN b) = some (lN (pmod (pmul a b) (2 ^ w ^^^ P))) := by
  unfold fX6_times
  have hN' : 2 ^ 36 ≤ N := hN
  rw [if_neg (oob_nI hf (by decide)), nCl (by omega), hW]
  refine sX6_times_L (k := fun x => some x) hf hW hQ hw1 hw hP ha hb w N 0 (by omega) (Nat.le_refl _) (Nat.two_pow_pos w) ?_
  rw [Nat.div_eq_of_lt hb, pmul_0]; exact Cg.rfl'
theorem sX6_power_L {N f w P base a : Nat} {mW : Nat → Int32} {mP : Nat → Int64} {k : Int64 → Option Int64} (hN : Big N) (hf : f < 8) (hW : mW f = nI w) (hQ : mP f = lN P) (hw1 : 1 ≤ w) (hw : w ≤ 32) (hP : P < 2 ^ w) (ha : a < 2 ^ 63) : ∀ (j n c r b : Nat), j < n → c + j = 63 → r < 2 ^ w → b < 2 ^ w → Cg (2 ^ w ^^^ P) (pmul r (ppow b (a / 2 ^ c))) (ppow base a) → fX6_power_L9 N mW mP (nI f) (lN a) k n (lN r) (lN b) (nI c) = k (lN (pmod (ppow base a) (2 ^ w ^^^ P))) := by
  intro j
  have hm := gq_dg hP
  induction j with
  | zero =>
    intro n c r b hn hc hr hb h
    obtain ⟨n, rfl⟩ : ∃ z, n = z + 1 := ⟨n - 1, by omega⟩
    have : c = 63 := by omega
    subst this
    rw [fX6_power_L9_s, fX6_power_B9, if_pos (show (63 : Int32) ≤ nI 63 by decide)]
    rw [Nat.div_eq_of_lt ha] at h
    have h2 : Cg (2 ^ w ^^^ P) r (ppow base a) := by
      have e : pmul r (ppow b 0) = r := pmul_1 r
      rw [e] at h; exact h
    rw [pmod_eq hm hr h2]
  | succ j ih =>
    intro n c r b hn hc hr hb h
    obtain ⟨n, rfl⟩ : ∃ z, n = z + 1 := ⟨n - 1, by omega⟩
    rw [fX6_power_L9_s, fX6_power_B9, if_neg (show ¬ (63 : Int32) ≤ nI c from nI_ge (show c < 63 by omega) (by decide))]
    have hs := shr_step a c
    have e2 : ∀ z, ppow b (2 * z) = ppow (pmul b b) z := by
      intro z
      rw [ppow_mul, show ppow b 2 = pmul b b by show pmul (pmul 1 b) b = _; rw [pmul_1l]]
    have hbb := sX6_times hN hf hW hQ hw1 hw hP hb hb
    by_cases ht : a.testBit c = true
    · rw [if_pos ((lBitR ha (by omega)).mpr ht), sX6_times hN hf hW hQ hw1 hw hP hr hb, Option.bind_some, hbb, Option.bind_some, nI_1]
      refine ih n (c + 1) _ _ (by omega) (by omega) (pmod_lt hm _) (pmod_lt hm _) ?_
      refine Cg.trans ?_ h
      rw [hs, ht, Bool.toNat_true, ppow_add, e2, ppow_1]
      have h3 := (pmod_cg (pmul r b) (2 ^ w ^^^ P)).mul ((pmod_cg (pmul b b) (2 ^ w ^^^ P)).pow (a / 2 ^ (c + 1)))
      refine h3.trans (Cg.of_eq ?_)
      rw [pmul_assoc, pmul_comm b]
    · rw [if_neg (fun e => ht ((lBitR ha (by omega)).mp e)), hbb, Option.bind_some, nI_1]
      refine ih n (c + 1) _ _ (by omega) (by omega) hr (pmod_lt hm _) ?_
      refine Cg.trans ?_ h
      have hs' : a / 2 ^ c = 2 * (a / 2 ^ (c + 1)) := by
        rw [hs, show a.testBit c = false by simpa using ht]; rfl
      rw [hs', e2]
      exact Cg.rfl'.mul ((pmod_cg (pmul b b) (2 ^ w ^^^ P)).pow _)
theorem sX6_power {N f w P base a : Nat} {mW : Nat → Int32} {mP : Nat → Int64} (hN : Big N) (hf : f < 8) (hW : mW f = nI w) (hQ : mP f = lN P) (hw1 : 1 ≤ w) (hw : w ≤ 32) (hP : P < 2 ^ w) (ha : a < 2 ^ 63) (hb : base < 2 ^ w) : fX6_power N mW mP (nI f) (lN base) (lN a) = some (lN (pmod (ppow base a) (2 ^ w ^^^ P))) := by
  unfold fX6_power
  have hN' : 2 ^ 36 ≤ N := hN
  have h2d : 2 ^ 1 ≤ 2 ^ w := pow_le_of_le hw1
  refine sX6_power_L (k := fun x => some x) (base := base) hN hf hW hQ hw1 hw hP ha 63 N 0 1 base (by omega) (by omega) (by omega) hb ?_
  rw [pmul_1l, Nat.pow_zero, Nat.div_one]; exact Cg.rfl'
/-- the register moved by 8 n -/
noncomputable def mvd (G r n : Nat) : Nat := pmod (pmul r (ppow 2 (8 * n))) G
theorem cg_pow2_8 {m a z : Nat} (h : Cg m a (ppow 2 z)) : Cg m (2 * a) (ppow 2 (z + 1)) := by
  show Cg m _ (pmul (ppow 2 z) 2)
  rw [pmul_2r]; exact cg_2 h
theorem sX6_moved_L {N f w P reg oc : Nat} {mW : Nat → Int32} {mP : Nat → Int64} {k : Int64 → Option Int64} (hf : f < 8) (hW : mW f = nI w) (hQ : mP f = lN P) (hw1 : 1 ≤ w) (hw : w ≤ 32) (hP : P < 2 ^ w) : ∀ (j n c e : Nat), j < n → c + j = 8 → e < 2 ^ w → Cg (2 ^ w ^^^ P) e (ppow 2 c) → fX6_moved_L6 N mW mP (nI f) (lN reg) (lN oc) k n (lN e) (nI c) = k (lN (pmod (ppow 2 8) (2 ^ w ^^^ P))) := by
  intro j
  have hm := gq_dg hP
  induction j with
  | zero =>
    intro n c e hn hc he h
    obtain ⟨n, rfl⟩ : ∃ z, n = z + 1 := ⟨n - 1, by omega⟩
    have : c = 8 := by omega
    subst this
    rw [fX6_moved_L6_s, fX6_moved_B6, if_pos (show (8 : Int32) ≤ nI 8 by decide), pmod_eq hm he h]
  | succ j ih =>
    intro n c e hn hc he h
    obtain ⟨n, rfl⟩ : ∃ z, n = z + 1 := ⟨n - 1, by omega⟩
    rw [fX6_moved_L6_s, fX6_moved_B6, if_neg (show ¬ (8 : Int32) ≤ nI c from nI_ge (show c < 8 by omega) (by decide)), sX6_up hf hW hQ hw1 hw hP he, Option.bind_some, nI_1]
    exact ih n (c + 1) _ (by omega) (by omega) (pmod_lt hm _) ((pmod_cg _ _).trans (cg_pow2_8 h))
theorem sX6_moved {N f w P r a : Nat} {mW : Nat → Int32} {mP : Nat → Int64} (hN : Big N) (hf : f < 8) (hW : mW f = nI w) (hQ : mP f = lN P) (hw1 : 1 ≤ w) (hw : w ≤ 32) (hP : P < 2 ^ w) (ha : a < 2 ^ 63) (hr : r < 2 ^ w) : fX6_moved N mW mP (nI f) (lN r) (lN a) = some (lN (mvd (2 ^ w ^^^ P) r a)) := by
  unfold fX6_moved
  have hN' : 2 ^ 36 ≤ N := hN
  have hm := gq_dg hP
  have h2d : 2 ^ 1 ≤ 2 ^ w := pow_le_of_le hw1
  have := sX6_moved_L (N := N) (reg := r) (oc := a) (k := fun x => (fX6_power N mW mP (nI f) x (lN a)).bind (fun r_5 => (fX6_times N mW mP (nI f) (lN r) r_5).bind (fun r_7 => some r_7))) hf hW hQ hw1 hw hP 8 N 0 1 (by omega) (by omega) (by omega) Cg.rfl'
  refine this.trans ?_
  rw [sX6_power hN hf hW hQ hw1 hw hP ha (pmod_lt hm _), Option.bind_some, sX6_times hN hf hW hQ hw1 hw hP hr (pmod_lt hm _), Option.bind_some]
  unfold mvd
  rw [pmod_congr hm.pos]
  refine Cg.rfl'.mul ((pmod_cg _ _).trans ?_)
  rw [ppow_mul]
  exact (pmod_cg _ _).pow a
/-- the class: moved by octets -/
theorem sX1_moved_L6 {N w G x1 x3 : Nat} {k : Int64 → Option Int64} (hm : Dg G w) (hw1 : 1 ≤ w) (hw : w ≤ 32) : ∀ (j n c e : Nat), j < n → c + j = 8 → e < 2 ^ w → Cg G e (ppow 2 c) → fX1_movedByOctets_L6 N (nI w) (lN G) (lN x1) (lN x3) k n (lN e) (nI c) = k (lN (pmod (ppow 2 8) G)) := by
  intro j
  induction j with
  | zero =>
    intro n c e hn hc he h
    obtain ⟨n, rfl⟩ : ∃ z, n = z + 1 := ⟨n - 1, by omega⟩
    have : c = 8 := by omega
    subst this
    rw [fX1_movedByOctets_L6_s, fX1_movedByOctets_B6, if_pos (show (8 : Int32) ≤ nI 8 by decide), pmod_eq hm he h]
  | succ j ih =>
    intro n c e hn hc he h
    obtain ⟨n, rfl⟩ : ∃ z, n = z + 1 := ⟨n - 1, by omega⟩
    rw [fX1_movedByOctets_L6_s, fX1_movedByOctets_B6, if_neg (show ¬ (8 : Int32) ≤ nI c from nI_ge (show c < 8 by omega) (by decide)), sX2_timesX hm hw1 (by omega) he, Option.bind_some, nI_1]
    exact ih n (c + 1) _ (by omega) (by omega) (pmod_lt hm _) ((pmod_cg _ _).trans (cg_pow2_8 h))
theorem sX1_moved_L40 {N w G a T : Nat} {k : Int64 → Option Int64} (hN : Big N) (hm : Dg G w) (hw1 : 1 ≤ w) (hw : w ≤ 32) (ha : a < 2 ^ 61) : ∀ (j n c st now : Nat), j < n → c + j = 61 → st < 2 ^ w → now < 2 ^ w → Cg G (pmul now (ppow st (a / 2 ^ c))) T → fX1_movedByOctets_L40 N (nI w) (lN G) (lN a) k n (lN st) (lN now) (nI c) = k (lN (pmod T G)) := by
  intro j
  induction j with
  | zero =>
    intro n c st now hn hc hs hno h
    obtain ⟨n, rfl⟩ : ∃ z, n = z + 1 := ⟨n - 1, by omega⟩
    have : c = 61 := by omega
    subst this
    rw [fX1_movedByOctets_L40_s, fX1_movedByOctets_B40, if_pos (show (61 : Int32) ≤ nI 61 by decide)]
    rw [Nat.div_eq_of_lt ha] at h
    have e : pmul now (ppow st 0) = now := pmul_1 now
    rw [e] at h
    rw [pmod_eq hm hno h]
  | succ j ih =>
    intro n c st now hn hc hs hno h
    obtain ⟨n, rfl⟩ : ∃ z, n = z + 1 := ⟨n - 1, by omega⟩
    have hdl : a / 2 ^ c ≤ a := Nat.div_le_self _ _
    rw [fX1_movedByOctets_L40_s, fX1_movedByOctets_B40, if_neg (show ¬ (61 : Int32) ≤ nI c from nI_ge (show c < 61 by omega) (by decide))]
    by_cases hz : a / 2 ^ c = 0
    · rw [if_pos (by rw [lUs (by omega) (by omega), hz]; rfl)]
      rw [hz] at h
      have e : pmul now (ppow st 0) = now := pmul_1 now
      rw [e] at h
      rw [pmod_eq hm hno h]
    · rw [if_neg (by rw [lUs (by omega) (by omega)]; exact fun e => hz ((lE0 (by omega)).mp e))]
      have hs2 := shr_step a c
      have e2 : ∀ z, ppow st (2 * z) = ppow (pmul st st) z := by
        intro z
        rw [ppow_mul, show ppow st 2 = pmul st st by show pmul (pmul 1 st) st = _; rw [pmul_1l]]
      have hbb := sX2_product hN hm hw1 (by omega) hs hs
      by_cases ht : a.testBit c = false
      · rw [if_pos ((lBit (by omega) (by omega)).mpr ht), hbb, Option.bind_some, nI_1]
        refine ih n (c + 1) _ _ (by omega) (by omega) (pmod_lt hm _) hno ?_
        refine Cg.trans ?_ h
        have hs' : a / 2 ^ c = 2 * (a / 2 ^ (c + 1)) := by
          rw [hs2, ht]; rfl
        rw [hs', e2]
        exact Cg.rfl'.mul ((pmod_cg (pmul st st) G).pow _)
      · rw [if_neg (fun e => ht ((lBit (by omega) (by omega)).mp e)), sX2_product hN hm hw1 (by omega) hno hs, Option.bind_some, hbb, Option.bind_some, nI_1]
        refine ih n (c + 1) _ _ (by omega) (by omega) (pmod_lt hm _) (pmod_lt hm _) ?_
        refine Cg.trans ?_ h
        rw [hs2, show a.testBit c = true by simpa using ht, Bool.toNat_true, ppow_add, e2, ppow_1]
        have h3 := (pmod_cg (pmul now st) G).mul ((pmod_cg (pmul st st) G).pow (a / 2 ^ (c + 1)))
        refine h3.trans (Cg.of_eq ?_)
        rw [pmul_assoc, pmul_comm st]
theorem sX1_moved {N w G r a : Nat} (hN : Big N) (hm : Dg G w) (hw1 : 1 ≤ w) (hw : w ≤ 32) (ha : a < 2 ^ 61) (hr : r < 2 ^ w) : fX1_movedByOctets N (nI w) (lN G) (lN r) (lN a) = some (lN (mvd G r a)) := by
  unfold fX1_movedByOctets
  have hN' : 2 ^ 36 ≤ N := hN
  have h2d : 2 ^ 1 ≤ 2 ^ w := pow_le_of_le hw1
  have := sX1_moved_L6 (N := N) (x1 := r) (x3 := a) (k := fun x => fX1_movedByOctets_L40 N (nI w) (lN G) (lN a) (fun x => some x) N x (lN r) 0) hm hw1 hw 8 N 0 1 (by omega) (by omega) (by omega) Cg.rfl'
  refine this.trans ?_
  unfold mvd
  refine sX1_moved_L40 (k := fun x => some x) hN hm hw1 hw ha 61 N 0 _ r (by omega) (by omega) (pmod_lt hm _) hr ?_
  rw [Nat.pow_zero, Nat.div_one, ppow_mul]
  exact Cg.rfl'.mul ((pmod_cg _ _).pow a)
/-- bits in the other order -/
def rv (v : Nat) : Nat → Nat
  | 0 => 0
  | k + 1 => 2 * rv v k + (v.testBit k).toNat
theorem rv_lt (v k : Nat) : rv v k < 2 ^ k := by
  induction k with
  | zero => simp [rv]
  | succ k ih =>
    have : (v.testBit k).toNat ≤ 1 := Bool.toNat_le _
    simp only [rv]; rw [Nat.pow_succ]; omega
theorem or_bit (t i : Nat) (b : Bool) : (t * 2 ^ (i + 1)) ||| (b.toNat * 2 ^ i) = (2 * t + b.toNat) * 2 ^ i := by
  have e2 : t * 2 ^ (i + 1) = (2 * t) * 2 ^ i := by rw [Nat.pow_succ]; rw [Nat.mul_comm (2 ^ i) 2, ← Nat.mul_assoc, Nat.mul_comm t 2]
  cases b with
  | false => simp [e2]
  | true => rw [Bool.toNat_true, Nat.one_mul, or_xor_pow, e2, ← pmul_pow (2 * t), ← pmul_pow (2 * t + 1), x1, pmul_xl, pmul_1l, Nat.xor_comm]
theorem sX1_turned_L {N v b : Nat} {k : Int64 → Option Int64} (hv : v < 2 ^ 63) (hb : b ≤ 32) : ∀ (j n c : Nat), j < n → c + j = b → fX1_turned_L5 N (lN v) (nI b) k n (lN (rv v c)) (nI c) = k (lN (rv v b)) := by
  intro j
  induction j with
  | zero =>
    intro n c hn hc
    obtain ⟨n, rfl⟩ : ∃ z, n = z + 1 := ⟨n - 1, by omega⟩
    have : c = b := by omega
    subst this
    rw [fX1_turned_L5_s, fX1_turned_B5, if_pos (nI_le (Nat.le_refl _) (by omega))]
  | succ j ih =>
    intro n c hn hc
    obtain ⟨n, rfl⟩ : ∃ z, n = z + 1 := ⟨n - 1, by omega⟩
    have e : lShl (lN (rv v c)) (1 : Int32) ||| (lUsh (lN v) (nI c) &&& (1 : Int64)) = lN (rv v (c + 1)) := by
      rw [show (1 : Int32) = nI 1 from rfl, lSh _ (by decide), lUs (by omega) (by omega), lA1, lO, ← Nat.toNat_testBit]
      have := or_bit (rv v c) 0 (v.testBit c)
      simp only [Nat.pow_zero, Nat.mul_one] at this
      rw [this]; rfl
    rw [fX1_turned_L5_s, fX1_turned_B5, if_neg (nI_ge (by omega) (by omega)), e, nI_1]
    exact ih n (c + 1) (by omega) (by omega)
theorem sX1_turned {N v b : Nat} (hN : Big N) (hv : v < 2 ^ 63) (hb : b ≤ 32) : fX1_turned N (lN v) (nI b) = some (lN (rv v b)) := by
  unfold fX1_turned
  have hN' : 2 ^ 36 ≤ N := hN
  exact sX1_turned_L (k := fun x => some x) hv hb b N 0 (by omega) (by omega)
theorem sX6_turned_L {N v b : Nat} {k : Int64 → Option Int64} (hv : v < 2 ^ 63) (hb : b ≤ 32) : ∀ (j n c : Nat), j < n → c + j = b → fX6_turned_L5 N (lN v) (nI b) k n (lN (rv v c * 2 ^ j)) (nI c) = k (lN (rv v b)) := by
  intro j
  induction j with
  | zero =>
    intro n c hn hc
    obtain ⟨n, rfl⟩ : ∃ z, n = z + 1 := ⟨n - 1, by omega⟩
    have : c = b := by omega
    subst this
    rw [fX6_turned_L5_s, fX6_turned_B5, if_pos (nI_le (Nat.le_refl _) (by omega)), Nat.pow_zero, Nat.mul_one]
  | succ j ih =>
    intro n c hn hc
    obtain ⟨n, rfl⟩ : ∃ z, n = z + 1 := ⟨n - 1, by omega⟩
    have e : lN (rv v c * 2 ^ (j + 1)) ||| lShl (lShr (lN v) (nI c) &&& (1 : Int64)) ((nI b - (1 : Int32)) - nI c) = lN (rv v (c + 1) * 2 ^ j) := by
      rw [show (1 : Int32) = nI 1 from rfl, nSub (by omega), nSub (by omega), show b - 1 - c = j by omega, lBitR0 (by omega) (by omega), lSh _ (by omega), lO, or_bit]; rfl
    rw [fX6_turned_L5_s, fX6_turned_B5, if_neg (nI_ge (by omega) (by omega)), e, nI_1]
    exact ih n (c + 1) (by omega) (by omega)
theorem sX6_turned {N v b : Nat} (hN : Big N) (hv : v < 2 ^ 63) (hb : b ≤ 32) : fX6_turned N (lN v) (nI b) = some (lN (rv v b)) := by
  unfold fX6_turned
  have hN' : 2 ^ 36 ≤ N := hN
  have := sX6_turned_L (N := N) (k := fun x => some x) hv hb b N 0 (by omega) (by omega)
  rw [show rv v 0 = 0 from rfl, Nat.zero_mul] at this
  exact this
/-- a sum out of a register, and back -/
def tld (w en : Nat) (ro : Int32) (r : Nat) : Nat := (if ro = 0 then r else rv r w) ^^^ en
def rgt (w en : Nat) (ro : Int32) (s : Nat) : Nat := if ro = 0 then s ^^^ en else rv (s ^^^ en) w
theorem rgt_lt {w en s : Nat} {ro : Int32} (hs : s < 2 ^ w) (he : en < 2 ^ w) : rgt w en ro s < 2 ^ w := by
  unfold rgt
  split
  · exact Nat.xor_lt_two_pow hs he
  · exact rv_lt _ _
theorem sX1_sumOf {N w en r : Nat} {ro : Int32} (hN : Big N) (hw : w ≤ 32) (hr : r < 2 ^ w) : fX1_sumOf N (nI w) (lN en) ro (lN r) = some (lN (tld w en ro r)) := by
  have hw32 : 2 ^ w ≤ 2 ^ 32 := pow_le_of_le hw
  unfold fX1_sumOf tld
  by_cases h : ro = 0
  · rw [if_pos h, if_pos h, lX]
  · rw [if_neg h, if_neg h, sX1_turned hN (by omega) hw, Option.bind_some, lX]
theorem sX1_registerOf {N w en s : Nat} {ro : Int32} (hN : Big N) (hw : w ≤ 32) (hs : s < 2 ^ w) (he : en < 2 ^ w) : fX1_registerOf N (nI w) (lN en) ro (lN s) = some (lN (rgt w en ro s)) := by
  have hw32 : 2 ^ w ≤ 2 ^ 32 := pow_le_of_le hw
  have := Nat.xor_lt_two_pow hs he
  unfold fX1_registerOf rgt
  by_cases h : ro = 0
  · rw [if_pos h, if_pos h, lX]
  · rw [if_neg h, if_neg h, lX, sX1_turned hN (by omega) hw, Option.bind_some]
theorem sX6_told {N f w en r : Nat} {ro : Int32} {mW mO : Nat → Int32} {mE : Nat → Int64} (hN : Big N) (hf : f < 8) (hW : mW f = nI w) (hE : mE f = lN en) (hO : mO f = ro) (hw : w ≤ 32) (hr : r < 2 ^ w) : fX6_told N mW mE mO (nI f) (lN r) = some (lN (tld w en ro r)) := by
  have hw32 : 2 ^ w ≤ 2 ^ 32 := pow_le_of_le hw
  have ho : ¬ OOB (nI f) 8 := oob_nI hf (by decide)
  unfold fX6_told tld
  simp only [if_neg ho, nCl (show f < 2 ^ 31 by omega), hW, hE, hO]
  by_cases h : ro = 0
  · rw [if_pos h, if_pos h, lX]
  · rw [if_neg h, if_neg h, sX6_turned hN (by omega) hw, Option.bind_some, lX]
theorem sX6_register {N f w en s : Nat} {ro : Int32} {mW mO : Nat → Int32} {mE : Nat → Int64} (hN : Big N) (hf : f < 8) (hW : mW f = nI w) (hE : mE f = lN en) (hO : mO f = ro) (hw : w ≤ 32) (hs : s < 2 ^ w) (he : en < 2 ^ w) : fX6_register N mW mE mO (nI f) (lN s) = some (lN (rgt w en ro s)) := by
  have hw32 : 2 ^ w ≤ 2 ^ 32 := pow_le_of_le hw
  have := Nat.xor_lt_two_pow hs he
  have ho : ¬ OOB (nI f) 8 := oob_nI hf (by decide)
  unfold fX6_register rgt
  simp only [if_neg ho, nCl (show f < 2 ^ 31 by omega), hW, hE, hO]
  by_cases h : ro = 0
  · rw [if_pos h, if_pos h, lX]
  · rw [if_neg h, if_neg h, lX, sX6_turned hN (by omega) hw, Option.bind_some]
/-- an octet taken in: j bits are still to come -/
noncomputable def tkn (G w : Nat) (ri : Int32) (o : Nat) : Nat → Nat → Nat
  | 0, r => r
  | j + 1, r => tkn G w ri o j (pmod (2 * (r ^^^ ((o.testBit (if ri = 0 then j else 7 - j)).toNat * 2 ^ (w - 1)))) G)
theorem tkn_lt {G w o : Nat} {ri : Int32} (hG : Dg G w) : ∀ (j r : Nat), r < 2 ^ w → tkn G w ri o j r < 2 ^ w
  | 0, _, h => h
  | j + 1, _, _ => tkn_lt hG j _ (pmod_lt hG _)
theorem bit_pw {w : Nat} (hw : 1 ≤ w) (b : Bool) : b.toNat * 2 ^ (w - 1) < 2 ^ w := by
  have h2 : 2 ^ w = 2 * 2 ^ (w - 1) := by conv => lhs; rw [show w = (w - 1) + 1 by omega, Nat.pow_succ]; rw [Nat.mul_comm]
  have := Nat.two_pow_pos (w - 1)
  cases b <;> simp <;> omega
theorem iBit {o i : Nat} (ho : o < 256) (hi : i < 8) : iShr (nI o) (nI i) &&& (1 : Int32) = nI ((o.testBit i).toNat) := by
  rw [iSr (by omega) (by omega), show (1 : Int32) = nI 1 from rfl, nAnd, Nat.and_one_is_mod, Nat.toNat_testBit]
theorem sX1_behind_L {N w G o : Nat} {ri : Int32} {k : Int64 → Option Int64} (hG : Dg G w) (hw1 : 1 ≤ w) (hw : w ≤ 32) (ho : o < 256) : ∀ (j n c r : Nat), j < n → c + j = 8 → r < 2 ^ w → fX1_behindOctet_L6 N (nI w) (lN G) ri (nI o) k n (lN r) (nI c) = k (lN (tkn G w ri o j r)) := by
  intro j
  induction j with
  | zero =>
    intro n c r hn hc hr
    obtain ⟨n, rfl⟩ : ∃ z, n = z + 1 := ⟨n - 1, by omega⟩
    have : c = 8 := by omega
    subst this
    rw [fX1_behindOctet_L6_s, fX1_behindOctet_B6, if_pos (show (8 : Int32) ≤ nI 8 by decide)]; rfl
  | succ j ih =>
    intro n c r hn hc hr
    obtain ⟨n, rfl⟩ : ∃ z, n = z + 1 := ⟨n - 1, by omega⟩
    have e1 : nI w - (1 : Int32) = nI (w - 1) := nSub hw1
    have key : ∀ i, i < 8 → fX2_timesX N (lN r ^^^ lShl ((iShr (nI o) (nI i) &&& (1 : Int32)).toInt64) (nI w - (1 : Int32))) (lN G) (nI w) = some (lN (pmod (2 * (r ^^^ ((o.testBit i).toNat * 2 ^ (w - 1)))) G)) := by
      intro i hi
      have hb1 : (o.testBit i).toNat ≤ 1 := Bool.toNat_le _
      rw [iBit ho hi, nI_l (by omega), e1, lSh _ (by omega), lX]
      exact sX2_timesX hG hw1 (by omega) (Nat.xor_lt_two_pow hr (bit_pw hw1 _))
    rw [fX1_behindOctet_L6_s, fX1_behindOctet_B6, if_neg (show ¬ (8 : Int32) ≤ nI c from nI_ge (show c < 8 by omega) (by decide)), nI_1]
    by_cases h : ri = 0
    · rw [if_pos h, show (7 : Int32) - nI c = nI (7 - c) from nSub (a := 7) (b := c) (by omega), key (7 - c) (by omega), Option.bind_some]
      rw [ih n (c + 1) _ (by omega) (by omega) (pmod_lt hG _)]
      simp only [tkn, if_pos h, show 7 - c = j by omega]
    · rw [if_neg h, key c (by omega), Option.bind_some]
      rw [ih n (c + 1) _ (by omega) (by omega) (pmod_lt hG _)]
      simp only [tkn, if_neg h, show 7 - j = c by omega]
theorem sX1_behind {N w G o r : Nat} {ri : Int32} (hN : Big N) (hG : Dg G w) (hw1 : 1 ≤ w) (hw : w ≤ 32) (ho : o < 256) (hr : r < 2 ^ w) : fX1_behindOctet N (nI w) (lN G) ri (lN r) (nI o) = some (lN (tkn G w ri o 8 r)) := by
  unfold fX1_behindOctet
  have hN' : 2 ^ 36 ≤ N := hN
  exact sX1_behind_L (k := fun x => some x) hG hw1 hw ho 8 N 0 r (by omega) (by omega) hr
theorem sX6_taken_L {N f w P o : Nat} {ri : Int32} {mW mI : Nat → Int32} {mP : Nat → Int64} {k : Int64 → Option Int64} (hf : f < 8) (hW : mW f = nI w) (hQ : mP f = lN P) (hI : mI f = ri) (hw1 : 1 ≤ w) (hw : w ≤ 32) (hP : P < 2 ^ w) (ho : o < 256) : ∀ (j n c r : Nat), j < n → c + j = 8 → r < 2 ^ w → fX6_taken_L6 N mW mP mI (nI f) (nI o) k n (lN r) (nI c) = k (lN (tkn (2 ^ w ^^^ P) w ri o j r)) := by
  intro j
  have hG := gq_dg hP
  have hob : ¬ OOB (nI f) 8 := oob_nI hf (by decide)
  induction j with
  | zero =>
    intro n c r hn hc hr
    obtain ⟨n, rfl⟩ : ∃ z, n = z + 1 := ⟨n - 1, by omega⟩
    have : c = 8 := by omega
    subst this
    rw [fX6_taken_L6_s, fX6_taken_B6, if_pos (show (8 : Int32) ≤ nI 8 by decide)]; rfl
  | succ j ih =>
    intro n c r hn hc hr
    obtain ⟨n, rfl⟩ : ∃ z, n = z + 1 := ⟨n - 1, by omega⟩
    have e1 : nI w - (1 : Int32) = nI (w - 1) := nSub hw1
    have key : ∀ i, i < 8 → (if (iShr (nI o) (nI i) &&& (1 : Int32)) = (1 : Int32) then (fX6_up N mW mP (nI f) (lN r ^^^ lShl (1 : Int64) (nI w - (1 : Int32)))).bind (fun z => fX6_taken_L6 N mW mP mI (nI f) (nI o) k n z (nI (c + 1))) else (fX6_up N mW mP (nI f) (lN r)).bind (fun z => fX6_taken_L6 N mW mP mI (nI f) (nI o) k n z (nI (c + 1)))) = fX6_taken_L6 N mW mP mI (nI f) (nI o) k n (lN (pmod (2 * (r ^^^ ((o.testBit i).toNat * 2 ^ (w - 1)))) (2 ^ w ^^^ P))) (nI (c + 1)) := by
      intro i hi
      rw [iBit ho hi]
      have hbw := bit_pw hw1 true
      cases hb : o.testBit i with
      | false =>
        rw [if_neg (by decide), sX6_up hf hW hQ hw1 hw hP hr, Option.bind_some]
        simp
      | true =>
        rw [if_pos (by decide), e1, show (1 : Int64) = lN 1 from rfl, lSh 1 (by omega), lX, sX6_up hf hW hQ hw1 hw hP (Nat.xor_lt_two_pow hr (by simpa using hbw)), Option.bind_some]
        simp
    rw [fX6_taken_L6_s, fX6_taken_B6, if_neg (show ¬ (8 : Int32) ≤ nI c from nI_ge (show c < 8 by omega) (by decide)), nI_1]
    simp only [if_neg hob, nCl (show f < 2 ^ 31 by omega), hW, hI]
    by_cases h : ri = 0
    · rw [if_pos h, show (7 : Int32) - nI c = nI (7 - c) from nSub (a := 7) (b := c) (by omega), key (7 - c) (by omega), ih n (c + 1) _ (by omega) (by omega) (pmod_lt hG _)]
      simp only [tkn, if_pos h, show 7 - c = j by omega]
    · rw [if_neg h, key c (by omega), ih n (c + 1) _ (by omega) (by omega) (pmod_lt hG _)]
      simp only [tkn, if_neg h, show 7 - j = c by omega]
theorem sX6_taken {N f w P o r : Nat} {ri : Int32} {mW mI : Nat → Int32} {mP : Nat → Int64} (hN : Big N) (hf : f < 8) (hW : mW f = nI w) (hQ : mP f = lN P) (hI : mI f = ri) (hw1 : 1 ≤ w) (hw : w ≤ 32) (hP : P < 2 ^ w) (ho : o < 256) (hr : r < 2 ^ w) : fX6_taken N mW mP mI (nI f) (lN r) (nI o) = some (lN (tkn (2 ^ w ^^^ P) w ri o 8 r)) := by
  unfold fX6_taken
  have hN' : 2 ^ 36 ≤ N := hN
  exact sX6_taken_L (k := fun x => some x) hf hW hQ hI hw1 hw hP ho 8 N 0 r (by omega) (by omega) hr

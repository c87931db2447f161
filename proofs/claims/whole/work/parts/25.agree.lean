/-! ===== both sides answer alike: the calls without factors and distance ===== -/
/-- a form of the class and one of the reference are the same, and are as told -/
def FR (rw : Int32) (rg rs re : Int64) (ri ro : Int32) (w' : Int32) (p' s' e' : Int64) (i' o' : Int32) : Prop :=
  ∃ w P st en : Nat, (3 ≤ w ∧ w ≤ 32) ∧ (P < 2 ^ w ∧ P % 2 = 1 ∧ st < 2 ^ w ∧ en < 2 ^ w) ∧ (rw = nI w ∧ rg = lN (2 ^ w ^^^ P) ∧ rs = lN st ∧ re = lN en) ∧ (w' = nI w ∧ p' = lN P ∧ s' = lN st ∧ e' = lN en) ∧ i' = ri ∧ o' = ro
theorem isForm_c (N k : Nat) (hk : k ≤ 8) (x : Int32) : (fX5_isForm N (nI k) x = some 0 ∧ fX6_isForm N (nI k) x = some 0) ∨ ∃ f, f < k ∧ x = nI f ∧ fX5_isForm N (nI k) x = some 1 ∧ fX6_isForm N (nI k) x = some 1 := by
  unfold fX5_isForm fX6_isForm
  by_cases h0 : x < 0
  · left; rw [if_pos h0]; exact ⟨rfl, rfl⟩
  · rw [if_neg h0]
    by_cases h1 : nI k ≤ x
    · left; rw [if_pos h1]; exact ⟨rfl, rfl⟩
    · right
      obtain ⟨f, hf, rfl⟩ := nI_of h0
      rw [if_neg h1]
      refine ⟨f, ?_, rfl, rfl, rfl⟩
      rcases Nat.lt_or_ge f k with q | q
      · exact q
      · exact absurd (nI_le q hf) h1
theorem bits_c (N w : Nat) (hw : w ≤ 32) (v : Int64) : (fX5_hasBits N v (nI w) = some 0 ∧ fX6_isOf N (nI w) v = some 0) ∨ ∃ s, s < 2 ^ w ∧ v = lN s ∧ fX5_hasBits N v (nI w) = some 1 ∧ fX6_isOf N (nI w) v = some 1 := by
  unfold fX5_hasBits fX6_isOf
  have hw32 : 2 ^ w ≤ 2 ^ 32 := pow_le_of_le hw
  by_cases h0 : v < 0
  · left; rw [if_pos h0]; exact ⟨rfl, rfl⟩
  · rw [if_neg h0]
    obtain ⟨s, hs, rfl⟩ := pk_lOf h0
    rw [show (1 : Int64) = lN 1 from rfl, lSh 1 (by omega), Nat.one_mul]
    by_cases h1 : lN (2 ^ w) ≤ lN s
    · left; rw [if_pos h1]; exact ⟨rfl, rfl⟩
    · right
      rw [if_neg h1]
      exact ⟨s, Nat.not_le.mp (fun q => h1 ((pk_lLE (by omega) hs).mpr q)), rfl, rfl, rfl⟩
theorem len_c (N : Nat) (x : Int64) : (fX5_isLength N x = some 0 ∧ fX6_isFar N x = some 0) ∨ ∃ n, n ≤ 2 ^ 60 ∧ x = lN n ∧ fX5_isLength N x = some 1 ∧ fX6_isFar N x = some 1 := by
  unfold fX5_isLength fX6_isFar
  by_cases h0 : x < 0
  · left; rw [if_pos h0]; exact ⟨rfl, rfl⟩
  · rw [if_neg h0]
    obtain ⟨s, hs, rfl⟩ := pk_lOf h0
    by_cases h1 : (1152921504606846976 : Int64) < lN s
    · left; rw [if_pos h1]; exact ⟨rfl, rfl⟩
    · right
      rw [if_neg h1]
      refine ⟨s, Nat.not_lt.mp (fun q => h1 ?_), rfl, rfl, rfl⟩
      exact (pk_lLT (a := 2 ^ 60) (by decide) hs).mpr q
theorem part_c (N n : Nat) (hn : n ≤ 600) (x y : Int32) : (fX5_isPart N (nI n) x y = some 0 ∧ fX6_isSpan N (nI n) x y = some 0) ∨ ∃ a b, a ≤ b ∧ b ≤ n ∧ x = nI a ∧ y = nI b ∧ fX5_isPart N (nI n) x y = some 1 ∧ fX6_isSpan N (nI n) x y = some 1 := by
  unfold fX5_isPart fX6_isSpan
  by_cases h0 : x < 0
  · left; rw [if_pos h0]; exact ⟨rfl, rfl⟩
  · rw [if_neg h0]
    by_cases h1 : y < x
    · left; rw [if_pos h1]; exact ⟨rfl, rfl⟩
    · rw [if_neg h1]
      by_cases h2 : nI n < y
      · left; rw [if_pos h2]; exact ⟨rfl, rfl⟩
      · right
        rw [if_neg h2]
        obtain ⟨a, ha, rfl⟩ := nI_of h0
        have hy0 : ¬ y < 0 := by
          intro q
          apply h1
          rw [Int32.lt_iff_toInt_lt] at q ⊢
          rw [nI_toInt ha]
          have e0 : (0 : Int32).toInt = 0 := rfl
          rw [e0] at q; omega
        obtain ⟨b, hb, rfl⟩ := nI_of hy0
        refine ⟨a, b, Nat.not_lt.mp (fun q => h1 (nI_lt q ha)), Nat.not_lt.mp (fun q => h2 (nI_lt q hb)), rfl, rfl, rfl, rfl⟩
/-- a call on a form: refused, or the form f -/
theorem sum5_0 {N : Nat} {sC rw x1 : Int32} {v : Int64} (h : fX5_isForm N sC x1 = some 0) : fX5_isSum N sC rw x1 v = some 0 := by unfold fX5_isSum; rw [h, Option.bind_some, if_pos rfl]
theorem sum6_0 {N : Nat} {mC x1 : Int32} {mW : Nat → Int32} {v : Int64} (h : fX6_isForm N mC x1 = some 0) : fX6_isSum N mC mW x1 v = some 0 := by unfold fX6_isSum; rw [h, Option.bind_some, if_pos rfl]
theorem isSum_c {N k f w : Nat} {mW : Nat → Int32} (hf : f < 8) (hw : w ≤ 32) (hW : mW f = nI w) (h5 : fX5_isForm N (nI k) (nI f) = some 1) (h6 : fX6_isForm N (nI k) (nI f) = some 1) (v : Int64) : (fX5_isSum N (nI k) (nI w) (nI f) v = some 0 ∧ fX6_isSum N (nI k) mW (nI f) v = some 0) ∨ ∃ s, s < 2 ^ w ∧ v = lN s ∧ fX5_isSum N (nI k) (nI w) (nI f) v = some 1 ∧ fX6_isSum N (nI k) mW (nI f) v = some 1 := by
  unfold fX5_isSum fX6_isSum
  have ho : ¬ OOB (nI f) 8 := oob_nI hf (by decide)
  simp only [h5, h6, Option.bind_some, if_neg (show ¬ (1 : Int32) = 0 by decide), if_neg ho, nCl (show f < 2 ^ 31 by omega), hW]
  rcases bits_c N w hw v with ⟨a, b⟩ | ⟨s, hs, e, a, b⟩
  · left; rw [a, b]; exact ⟨rfl, rfl⟩
  · right; rw [a, b]; exact ⟨s, hs, e, rfl, rfl⟩
theorem mvd_lt {G w : Nat} (hG : Dg G w) (r n : Nat) : mvd G r n < 2 ^ w := pmod_lt hG _
section FORMS
variable {N k : Nat} {mW mI mO : Nat → Int32} {mP mS mE : Nat → Int64} {rw ri ro : Int32} {rg rs re : Int64}
theorem ag_joined (hN : Big N) (hk : k ≤ 8) (x1 : Int32) (hF : ∀ f, f < k → x1 = nI f → FR rw rg rs re ri ro (mW f) (mP f) (mS f) (mE f) (mI f) (mO f)) (x2 x4 x6 : Int64) : ∃ r, fX5_joined N (nI k) rw rg rs re ro x1 x2 x4 x6 = some r ∧ fX6_joined N (nI k) mW mP mS mE mO x1 x2 x4 x6 = some r := by
  unfold fX5_joined fX6_joined
  rcases isForm_c N k hk x1 with ⟨a, b⟩ | ⟨f, hf, rfl, a, b⟩
  · exact ⟨-1, by rw [sum5_0 a]; rfl, by rw [sum6_0 b]; rfl⟩
  · obtain ⟨w, P, st, en, ⟨w1, w2⟩, ⟨p1, p2, p3, p4⟩, ⟨e1, e2, e3, e4⟩, ⟨g1, g2, g3, g4⟩, g5, g6⟩ := hF f hf rfl
    have hf8 : f < 8 := by omega
    have ho : ¬ OOB (nI f) 8 := oob_nI hf8 (by decide)
    subst e1 e2 e3 e4
    rcases isSum_c hf8 w2 g1 a b x2 with ⟨a1, b1⟩ | ⟨s1, hs1, rfl, a1, b1⟩
    · exact ⟨-1, by rw [a1]; rfl, by rw [b1]; rfl⟩
    · rcases isSum_c hf8 w2 g1 a b x4 with ⟨a2, b2⟩ | ⟨s2, hs2, rfl, a2, b2⟩
      · exact ⟨-1, by rw [a1, a2]; rfl, by rw [b1, b2]; rfl⟩
      · rcases len_c N x6 with ⟨a3, b3⟩ | ⟨n, hn, rfl, a3, b3⟩
        · exact ⟨-1, by rw [a1, a2, a3]; rfl, by rw [b1, b2, b3]; rfl⟩
        · have r1 := rgt_lt (ro := ro) hs1 p4
          have r2 := rgt_lt (ro := ro) hs2 p4
          have hG := gq_dg p1
          refine ⟨lN (tld w en ro (rgt w en ro s2 ^^^ mvd (2 ^ w ^^^ P) (rgt w en ro s1 ^^^ st) n)), ?_, ?_⟩
          · simp only [a1, a2, a3, Option.bind_some, if_neg ho, show ¬ (1 : Int32) = 0 by decide, if_false]
            rw [sX1_registerOf hN w2 hs1 p4, Option.bind_some, lX, sX1_moved hN hG (by omega) w2 (by omega) (Nat.xor_lt_two_pow r1 p3), Option.bind_some, sX1_registerOf hN w2 hs2 p4, Option.bind_some, lX, sX1_sumOf hN w2 (Nat.xor_lt_two_pow r2 (mvd_lt hG _ _)), Option.bind_some]
          · simp only [b1, b2, b3, Option.bind_some, if_neg ho, show ¬ (1 : Int32) = 0 by decide, if_false, nCl (show f < 2 ^ 31 by omega), g3]
            rw [sX6_register hN hf8 g1 g4 g6 w2 hs2 p4, Option.bind_some, sX6_register hN hf8 g1 g4 g6 w2 hs1 p4, Option.bind_some, lX, sX6_moved hN hf8 g1 g2 (by omega) w2 p1 (by omega) (Nat.xor_lt_two_pow r1 p3), Option.bind_some, lX, sX6_told hN hf8 g1 g4 g6 w2 (Nat.xor_lt_two_pow r2 (mvd_lt hG _ _)), Option.bind_some]
theorem ag_zeros (hN : Big N) (hk : k ≤ 8) (x1 : Int32) (hF : ∀ f, f < k → x1 = nI f → FR rw rg rs re ri ro (mW f) (mP f) (mS f) (mE f) (mI f) (mO f)) (x2 x4 : Int64) : ∃ r, fX5_zeros N (nI k) rw rg re ro x1 x2 x4 = some r ∧ fX6_zeros N (nI k) mW mP mE mO x1 x2 x4 = some r := by
  unfold fX5_zeros fX6_zeros
  rcases isForm_c N k hk x1 with ⟨a, b⟩ | ⟨f, hf, rfl, a, b⟩
  · exact ⟨-1, by rw [sum5_0 a]; rfl, by rw [sum6_0 b]; rfl⟩
  · obtain ⟨w, P, st, en, ⟨w1, w2⟩, ⟨p1, p2, p3, p4⟩, ⟨e1, e2, e3, e4⟩, ⟨g1, g2, g3, g4⟩, g5, g6⟩ := hF f hf rfl
    have hf8 : f < 8 := by omega
    have ho : ¬ OOB (nI f) 8 := oob_nI hf8 (by decide)
    subst e1 e2 e4
    rcases isSum_c hf8 w2 g1 a b x2 with ⟨a1, b1⟩ | ⟨s1, hs1, rfl, a1, b1⟩
    · exact ⟨-1, by rw [a1]; rfl, by rw [b1]; rfl⟩
    · rcases len_c N x4 with ⟨a3, b3⟩ | ⟨n, hn, rfl, a3, b3⟩
      · exact ⟨-1, by rw [a1, a3]; rfl, by rw [b1, b3]; rfl⟩
      · have r1 := rgt_lt (ro := ro) hs1 p4
        have hG := gq_dg p1
        refine ⟨lN (tld w en ro (mvd (2 ^ w ^^^ P) (rgt w en ro s1) n)), ?_, ?_⟩
        · simp only [a1, a3, Option.bind_some, if_neg ho, show ¬ (1 : Int32) = 0 by decide, if_false]
          rw [sX1_registerOf hN w2 hs1 p4, Option.bind_some, sX1_moved hN hG (by omega) w2 (by omega) r1, Option.bind_some, sX1_sumOf hN w2 (mvd_lt hG _ _), Option.bind_some]
        · simp only [b1, b3, Option.bind_some, show ¬ (1 : Int32) = 0 by decide, if_false]
          rw [sX6_register hN hf8 g1 g4 g6 w2 hs1 p4, Option.bind_some, sX6_moved hN hf8 g1 g2 (by omega) w2 p1 (by omega) r1, Option.bind_some, sX6_told hN hf8 g1 g4 g6 w2 (mvd_lt hG _ _), Option.bind_some]
theorem ag_changed (hN : Big N) (hk : k ≤ 8) (x1 : Int32) (hF : ∀ f, f < k → x1 = nI f → FR rw rg rs re ri ro (mW f) (mP f) (mS f) (mE f) (mI f) (mO f)) (x2 x4 : Int64) (x6 : Int32) : ∃ r, fX5_changed N (nI k) rw rg re ri ro x1 x2 x4 x6 = some r ∧ fX6_changed N (nI k) mW mP mE mI mO x1 x2 x4 x6 = some r := by
  unfold fX5_changed fX6_changed
  rcases isForm_c N k hk x1 with ⟨a, b⟩ | ⟨f, hf, rfl, a, b⟩
  · exact ⟨-1, by rw [sum5_0 a]; rfl, by rw [sum6_0 b]; rfl⟩
  · obtain ⟨w, P, st, en, ⟨w1, w2⟩, ⟨p1, p2, p3, p4⟩, ⟨e1, e2, e3, e4⟩, ⟨g1, g2, g3, g4⟩, g5, g6⟩ := hF f hf rfl
    have hf8 : f < 8 := by omega
    have ho : ¬ OOB (nI f) 8 := oob_nI hf8 (by decide)
    subst e1 e2 e4
    rcases isSum_c hf8 w2 g1 a b x2 with ⟨a1, b1⟩ | ⟨s1, hs1, rfl, a1, b1⟩
    · exact ⟨-1, by rw [a1]; rfl, by rw [b1]; rfl⟩
    · rcases len_c N x4 with ⟨a3, b3⟩ | ⟨n, hn, rfl, a3, b3⟩
      · exact ⟨-1, by rw [a1, a3]; rfl, by rw [b1, b3]; rfl⟩
      · simp only [a1, a3, b1, b3, Option.bind_some, if_neg ho, show ¬ (1 : Int32) = 0 by decide, if_false]
        by_cases h0 : x6 < 0
        · simp only [if_pos h0]; exact ⟨-1, rfl, rfl⟩
        · simp only [if_neg h0]
          by_cases h1 : x6 ≤ 255
          · obtain ⟨o, ho2, rfl⟩ := nI_of2 (M := 255) (n := 255) rfl h0 h1
            have r1 := rgt_lt (ro := ro) hs1 p4
            have hG := gq_dg p1
            have t1 := tkn_lt (ri := ri) (o := o) hG 8 0 (Nat.two_pow_pos w)
            simp only [if_pos h1]
            refine ⟨lN (tld w en ro (rgt w en ro s1 ^^^ mvd (2 ^ w ^^^ P) (tkn (2 ^ w ^^^ P) w ri o 8 0) n)), ?_, ?_⟩
            · rw [show (0 : Int64) = lN 0 from rfl, sX1_behind hN hG (by omega) w2 (by omega) (Nat.two_pow_pos w), Option.bind_some, sX1_moved hN hG (by omega) w2 (by omega) t1, Option.bind_some, sX1_registerOf hN w2 hs1 p4, Option.bind_some, lX, sX1_sumOf hN w2 (Nat.xor_lt_two_pow r1 (mvd_lt hG _ _)), Option.bind_some]
            · rw [sX6_register hN hf8 g1 g4 g6 w2 hs1 p4, Option.bind_some, show (0 : Int64) = lN 0 from rfl, sX6_taken hN hf8 g1 g2 g5 (by omega) w2 p1 (by omega) (Nat.two_pow_pos w), Option.bind_some, sX6_moved hN hf8 g1 g2 (by omega) w2 p1 (by omega) t1, Option.bind_some, lX, sX6_told hN hf8 g1 g4 g6 w2 (Nat.xor_lt_two_pow r1 (mvd_lt hG _ _)), Option.bind_some]
          · simp only [if_neg h1]; exact ⟨-1, rfl, rfl⟩
/-- the text -/
def TX (n : Nat) (sT mT : Nat → Int32) : Prop := ∀ j, j < n → mT j = sT j ∧ ∃ o, o < 256 ∧ sT j = nI o
theorem ag_sum_L {n w P st en b : Nat} {ri ro : Int32} {sC mC : Int32} {x1 : Int32} {f : Nat} {sT mT : Nat → Int32} {k5 k6 : Int64 → Option Int64} (hN : Big N) (hn : n ≤ 600) (hT : TX n sT mT) (hf8 : f < 8) (w1 : 3 ≤ w) (w2 : w ≤ 32) (p1 : P < 2 ^ w) (g1 : mW f = nI w) (g2 : mP f = lN P) (g5 : mI f = ri) (hb : b ≤ n) : ∀ (j m c r : Nat), j < m → c + j = b → r < 2 ^ w → ∃ q, q < 2 ^ w ∧ fX5_sum_L39 N (nI n) sC sT (nI w) (lN (2 ^ w ^^^ P)) (lN st) (lN en) ri ro (nI b) k5 m (lN r) (nI c) = k5 (lN q) ∧ fX6_sum_L32 N mC (nI n) mW mP mS mE mI mO mT (nI f) (nI b) k6 m (lN r) (nI c) = k6 (lN q) := by
  intro j
  have hG := gq_dg p1
  induction j with
  | zero =>
    intro m c r hm hc hr
    obtain ⟨m, rfl⟩ : ∃ z, m = z + 1 := ⟨m - 1, by omega⟩
    have : c = b := by omega
    subst this
    refine ⟨r, hr, ?_, ?_⟩
    · rw [fX5_sum_L39_s, fX5_sum_B39, if_pos (nI_le (Nat.le_refl _) (by omega))]
    · rw [fX6_sum_L32_s, fX6_sum_B32, if_pos (nI_le (Nat.le_refl _) (by omega))]
  | succ j ih =>
    intro m c r hm hc hr
    obtain ⟨m, rfl⟩ : ∃ z, m = z + 1 := ⟨m - 1, by omega⟩
    obtain ⟨t1, o, ho, t2⟩ := hT c (by omega)
    obtain ⟨q, hq, e5, e6⟩ := ih m (c + 1) (tkn (2 ^ w ^^^ P) w ri o 8 r) (by omega) (by omega) (tkn_lt hG 8 r hr)
    have hob : ¬ OOB (nI c) 600 := oob_nI (by omega) (by decide)
    refine ⟨q, hq, ?_, ?_⟩
    · rw [fX5_sum_L39_s, fX5_sum_B39, if_neg (nI_ge (by omega) (by omega)), if_neg hob, nCl (by omega), t2, sX1_behind hN hG (by omega) w2 ho hr, Option.bind_some, nI_1]
      exact e5
    · rw [fX6_sum_L32_s, fX6_sum_B32, if_neg (nI_ge (by omega) (by omega)), if_neg hob, nCl (by omega), t1, t2, sX6_taken hN hf8 g1 g2 g5 (by omega) w2 p1 ho hr, Option.bind_some, nI_1]
      exact e6
theorem ag_sum {n : Nat} {sT mT : Nat → Int32} (hN : Big N) (hk : k ≤ 8) (hn : n ≤ 600) (hT : TX n sT mT) (x1 x2 x3 : Int32) (hF : ∀ f, f < k → x1 = nI f → FR rw rg rs re ri ro (mW f) (mP f) (mS f) (mE f) (mI f) (mO f)) : ∃ r, fX5_sum N (nI n) (nI k) sT rw rg rs re ri ro x1 x2 x3 = some r ∧ fX6_sum N (nI k) (nI n) mW mP mS mE mI mO mT x1 x2 x3 = some r := by
  unfold fX5_sum fX6_sum
  rcases isForm_c N k hk x1 with ⟨a, b⟩ | ⟨f, hf, rfl, a, b⟩
  · exact ⟨-1, by rw [a]; rfl, by rw [b]; rfl⟩
  · obtain ⟨w, P, st, en, ⟨w1, w2⟩, ⟨p1, p2, p3, p4⟩, ⟨e1, e2, e3, e4⟩, ⟨g1, g2, g3, g4⟩, g5, g6⟩ := hF f hf rfl
    have hf8 : f < 8 := by omega
    have ho : ¬ OOB (nI f) 8 := oob_nI hf8 (by decide)
    subst e1 e2 e3 e4
    rcases part_c N n hn x2 x3 with ⟨a1, b1⟩ | ⟨i, j, hij, hj, rfl, rfl, a1, b1⟩
    · exact ⟨-1, by rw [a, a1]; rfl, by rw [b, b1]; rfl⟩
    · have hN' : 2 ^ 36 ≤ N := hN
      obtain ⟨q, hq, e5, e6⟩ := ag_sum_L (N := N) (mW := mW) (mI := mI) (mO := mO) (mP := mP) (mS := mS) (mE := mE) (st := st) (en := en) (ro := ro) (sC := nI k) (mC := nI k) (x1 := 0) (k5 := fun x5_12 => ((fX1_sumOf N (nI w) (lN en) ro x5_12).bind (fun r_13 => (some r_13)))) (k6 := fun x4_12 => ((fX6_told N mW mE mO (nI f) x4_12).bind (fun r_13 => (some r_13)))) hN hn hT hf8 w1 w2 p1 g1 g2 g5 hj (j - i) N i st (by omega) (by omega) p3
      refine ⟨lN (tld w en ro q), ?_, ?_⟩
      · simp only [a, a1, Option.bind_some, if_neg ho, show ¬ (1 : Int32) = 0 by decide, if_false]
        rw [e5, sX1_sumOf hN w2 hq, Option.bind_some]
      · simp only [b, b1, Option.bind_some, if_neg ho, show ¬ (1 : Int32) = 0 by decide, if_false, nCl (show f < 2 ^ 31 by omega), g3]
        rw [e6, sX6_told hN hf8 g1 g4 g6 w2 hq, Option.bind_some]
end FORMS
/-- octets out of a number -/
theorem fd_bits (v : Int64) {s : Nat} (hs : s ≤ 56) : ∃ o, o < 256 ∧ (lUsh v (nI s)).toInt32 &&& (255 : Int32) = nI o ∧ (lShr v (nI s) &&& (255 : Int64)).toInt32 = nI o := by
  obtain ⟨a, ha, rfl⟩ := wb_of v
  refine ⟨a / 2 ^ s % 256, Nat.mod_lt _ (by decide), ?_, ?_⟩
  · rw [lUs ha (by omega), lN_i, show (255 : Int32) = nI 255 from rfl, nAnd, show (255 : Nat) = 2 ^ 8 - 1 from rfl, Nat.and_two_pow_sub_one_eq_mod]
  · have : lShr (lN a) (nI s) &&& (255 : Int64) = lN (a / 2 ^ s % 256) := by
      apply wb_inj
      unfold lShr
      rw [wb_c s (by omega), Int64.toBitVec_and, Int64.toBitVec_shiftRight, wb_tb, wb_tb, wb_tb, wb_sm s (by omega)]
      apply BitVec.eq_of_getLsbD_eq
      intro i hi
      rw [BitVec.getLsbD_and]
      have h255 : (255 : Int64).toBitVec.getLsbD i = decide (i < 8) := by
        show (BitVec.ofNat 64 255).getLsbD i = _
        rw [BitVec.getLsbD_ofNat, show (255 : Nat) = 2 ^ 8 - 1 from rfl, Nat.testBit_two_pow_sub_one]
        simp [hi]
      rw [h255]
      rw [BitVec.getLsbD_ofNat, show (256 : Nat) = 2 ^ 8 from rfl, Nat.testBit_mod_two_pow, Nat.testBit_div_two_pow]
      by_cases h8 : i < 8
      · have e1 : (BitVec.ofNat 64 s).toNat = s := by rw [BitVec.toNat_ofNat, Nat.mod_eq_of_lt (by omega)]
        rw [show (BitVec.ofNat 64 a).sshiftRight' (BitVec.ofNat 64 s) = (BitVec.ofNat 64 a).sshiftRight (BitVec.ofNat 64 s).toNat from rfl, e1, BitVec.getLsbD_sshiftRight]
        rw [if_pos (show s + i < 64 by omega), BitVec.getLsbD_ofNat, Nat.add_comm i s]
        simp [h8, hi, show s + i < 64 by omega, show ¬ 64 ≤ i by omega]
      · simp [h8]
    rw [this, lN_i]
theorem ag_feed_L {N : Nat} {v : Int64} {k5 k6 : Int32 → (Nat → Int32) → Option (Int32 × Int32 × (Nat → Int32))} : ∀ (j m n : Nat) (sT mT : Nat → Int32), j < m → j ≤ 8 → n + j ≤ 600 → TX n sT mT → ∃ sT2 mT2, TX (n + j) sT2 mT2 ∧ fX5_feed_L33 N v k5 m (nI n) sT (nI j - 1) = k5 (nI (n + j)) sT2 ∧ fX6_feed_L33 N v k6 m (nI n) mT (nI j - 1) = k6 (nI (n + j)) mT2 := by
  intro j
  induction j with
  | zero =>
    intro m n sT mT hm _ _ hT
    obtain ⟨m, rfl⟩ : ∃ z, m = z + 1 := ⟨m - 1, by omega⟩
    refine ⟨sT, mT, hT, ?_, ?_⟩
    · rw [fX5_feed_L33_s, fX5_feed_B33, if_pos nJ0]; rfl
    · rw [fX6_feed_L33_s, fX6_feed_B33, if_pos nJ0]; rfl
  | succ j ih =>
    intro m n sT mT hm hj hn hT
    obtain ⟨m, rfl⟩ : ∃ z, m = z + 1 := ⟨m - 1, by omega⟩
    obtain ⟨o, ho, b5, b6⟩ := fd_bits v (s := 8 * j) (by omega)
    have hT2 : TX (n + 1) (upd sT n (nI o)) (upd mT n (nI o)) := by
      intro i hi
      by_cases h : i = n
      · subst h; exact ⟨by simp [upd], o, ho, by simp [upd]⟩
      · obtain ⟨q1, q2, q3, q4⟩ := hT i (by omega)
        exact ⟨by simp [upd, h, q1], q2, q3, by simp [upd, h, q4]⟩
    obtain ⟨sT2, mT2, h1, h2, h3⟩ := ih m (n + 1) (upd sT n (nI o)) (upd mT n (nI o)) (by omega) (by omega) (by omega) hT2
    have hob : ¬ OOB (nI n) 600 := oob_nI (by omega) (by decide)
    have e8 : (8 : Int32) * nI j = nI (8 * j) := pk_mul 8 j
    refine ⟨sT2, mT2, by rw [show n + (j + 1) = n + 1 + j by omega]; exact h1, ?_, ?_⟩
    · rw [fX5_feed_L33_s, fX5_feed_B33, nJs, if_neg (n_lt0 (by omega)), if_neg hob, nCl (by omega), e8, b5, nJn, nI_1, show n + (j + 1) = n + 1 + j by omega]
      exact h2
    · rw [fX6_feed_L33_s, fX6_feed_B33, nJs, if_neg (n_lt0 (by omega)), if_neg hob, nCl (by omega), e8, b6, nJn, nI_1, show n + (j + 1) = n + 1 + j by omega]
      exact h3
theorem ag_feed {N n : Nat} {sT mT : Nat → Int32} (hN : Big N) (hn : n ≤ 600) (hT : TX n sT mT) (x1 : Int32) (v : Int64) : ∃ (r : Int32) (n2 : Nat) (sT2 mT2 : Nat → Int32), n2 ≤ 600 ∧ TX n2 sT2 mT2 ∧ fX5_feed N (nI n) sT x1 v = some (r, nI n2, sT2) ∧ fX6_feed N (nI n) mT x1 v = some (r, nI n2, mT2) := by
  unfold fX5_feed fX6_feed
  by_cases h0 : x1 < 1
  · exact ⟨-1, n, sT, mT, hn, hT, by rw [if_pos h0], by rw [if_pos h0]⟩
  · rw [if_neg h0, if_neg h0]
    by_cases h1 : x1 ≤ 8
    · rw [if_pos h1, if_pos h1]
      have h00 : ¬ x1 < 0 := by
        intro q; apply h0
        rw [Int32.lt_iff_toInt_lt] at q ⊢
        have e0 : (0 : Int32).toInt = 0 := rfl
        have e1 : (1 : Int32).toInt = 1 := rfl
        rw [e0] at q; rw [e1]; omega
      obtain ⟨a, ha, rfl⟩ := nI_of2 (M := 8) (n := 8) rfl h00 h1
      have ha1 : 1 ≤ a := by
        rcases Nat.eq_zero_or_pos a with rfl | q
        · exact absurd (by decide) h0
        · exact q
      rw [nI_add]
      by_cases h2 : nI (n + a) ≤ 600
      · have h3 : n + a ≤ 600 := (nI_leI (a := n + a) (b := 600) (by omega) (by decide)).mp h2
        have hN' : 2 ^ 36 ≤ N := hN
        obtain ⟨sT2, mT2, q1, q2, q3⟩ := ag_feed_L (N := N) (v := v) (k5 := fun a b => some (a, a, b)) (k6 := fun a b => some (a, a, b)) a N n sT mT (by omega) ha h3 hT
        exact ⟨nI (n + a), n + a, sT2, mT2, h3, q1, by rw [if_pos h2]; exact q2, by rw [if_pos h2]; exact q3⟩
      · exact ⟨-2, n, sT, mT, hn, hT, by rw [if_neg h2], by rw [if_neg h2]⟩
    · exact ⟨-1, n, sT, mT, hn, hT, by rw [if_neg h1], by rw [if_neg h1]⟩
theorem ag_cut {N n : Nat} (hn : n ≤ 600) (x1 : Int32) : ∃ (r : Int32) (n2 : Nat), n2 ≤ n ∧ fX5_cut N (nI n) x1 = some (r, nI n2) ∧ fX6_cut N (nI n) x1 = some (r, nI n2) := by
  unfold fX5_cut fX6_cut
  by_cases h0 : x1 < 0
  · exact ⟨-1, n, Nat.le_refl _, by rw [if_pos h0], by rw [if_pos h0]⟩
  · simp only [if_neg h0]
    by_cases h1 : x1 ≤ nI n
    · obtain ⟨a, ha, rfl⟩ := nI_of2 (M := nI n) (n := n) (nI_toInt (by omega)) h0 h1
      exact ⟨nI n - nI a, a, ha, by rw [if_pos h1], by rw [if_pos h1]⟩
    · exact ⟨-1, n, Nat.le_refl _, by rw [if_neg h1], by rw [if_neg h1]⟩
theorem ag_octet {N n : Nat} {sT mT : Nat → Int32} (hn : n ≤ 600) (hT : TX n sT mT) (x1 : Int32) : ∃ r, fX5_octet N (nI n) sT x1 = some r ∧ fX6_octet N (nI n) mT x1 = some r := by
  unfold fX5_octet fX6_octet
  by_cases h0 : x1 < 0
  · exact ⟨-1, by rw [if_pos h0], by rw [if_pos h0]⟩
  · rw [if_neg h0, if_neg h0]
    by_cases h1 : x1 < nI n
    · obtain ⟨a, ha, rfl⟩ := nI_of h0
      have han : a < n := (nI_ltI ha (by omega)).mp h1
      have hob : ¬ OOB (nI a) 600 := oob_nI (by omega) (by decide)
      rw [if_pos h1, if_pos h1, if_neg hob, if_neg hob, nCl ha, (hT a han).1]
      exact ⟨_, rfl, rfl⟩
    · exact ⟨-1, by rw [if_neg h1], by rw [if_neg h1]⟩
theorem ag_count {N : Nat} {a b : Int32} (x1 : Int32) : ∃ r, fX5_count N a b x1 = some r ∧ fX6_count N b a x1 = some r := by
  unfold fX5_count fX6_count
  by_cases h0 : x1 = 0
  · exact ⟨b, by rw [if_pos h0], by rw [if_pos h0]⟩
  · by_cases h1 : x1 = 1
    · exact ⟨a, by rw [if_neg h0, if_pos h1], by rw [if_neg h0, if_pos h1]⟩
    · exact ⟨-1, by rw [if_neg h0, if_neg h1], by rw [if_neg h0, if_neg h1]⟩

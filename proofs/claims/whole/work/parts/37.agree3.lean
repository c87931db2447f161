/-! ===== factors, factor and order: both sides alike ===== -/
theorem sX6_findOrder {N f n w P : Nat} {p e : Nat → Nat} {mW : Nat → Int32} {mP : Nat → Int64} {mF : Nat → Int64} {mH mM : Nat → Int32} (hN : Big N) (hf : f < 8) (hW : mW f = nI w) (hQ : mP f = lN P) (hw1 : 3 ≤ w) (hw : w ≤ 32) (hP : P < 2 ^ w) (hodd : (2 ^ w ^^^ P) % 2 = 1) (hFA : FA p e n (2 ^ w ^^^ P)) (hn : n ≤ 32) (hF : MF f mF mH p e n) (hM : mM f = nI n) : ∃ o, Od (2 ^ w ^^^ P) o ∧ o < 2 ^ 38 ∧ fX6_findOrder N mW mP mF mH mM (nI f) = some (lN o) := by
  have hG := gq_dg (w := w) hP
  have hN' : 2 ^ 36 ≤ N := hN
  obtain ⟨g, hg, hgs, hes⟩ := fa_deg hFA hG
  unfold fX6_findOrder
  obtain ⟨M, most, a1, a2, a3, a4, a5, a6⟩ := findOrder_8 (N := N) (f := f) (w := w) (g := g) (mW := mW) (mP := mP) (mF := mF) (mH := mH) (mM := mM) (k := (fun x2_12 x4_13 => (fX6_findOrder_L97 N mW mP mF mH mM (nI f) x2_12 x4_13 (fun x5_15 => (fX6_findOrder_L127 N mW mP mF mH mM (nI f) (fun x2_28 => (some x2_28)) N (x2_12 * x5_15.toInt64) (x2_12 * x5_15.toInt64) (2 : Int64))) N (1 : Int32)))) hN hf hFA hodd hn hw hg hgs hes hF hM n N 0 1 1 (by omega) (by omega) (Nat.le_refl _) (Nat.le_refl _) (fun a ha => by omega) (Mst.zero e) (by omega)
  obtain ⟨T, b1, b2, b3⟩ := findOrder_two (N := N) (most := most) (mW := mW) (mP := mP) (mF := mF) (mH := mH) (mM := mM) (x1 := nI f) (x2 := lN M) (k := (fun x5_15 => (fX6_findOrder_L127 N mW mP mF mH mM (nI f) (fun x2_28 => (some x2_28)) N (lN M * x5_15.toInt64) (lN M * x5_15.toInt64) (2 : Int64)))) (by omega) 5 N 0 (by omega) a5 (by omega) (Or.inl rfl)
  have hT5 := b1.cap a5
  have hE : Eo (2 ^ w ^^^ P) (M * 2 ^ T) := eo_up hFA a3 (fun i hi => Nat.le_trans (a4.2.1 i hi) b1.1)
  have hMT : 1 ≤ M * 2 ^ T := Nat.mul_pos a1 (Nat.two_pow_pos T)
  obtain ⟨o, ho⟩ := od_ex hMT hE
  obtain ⟨c, hc⟩ := ho.dvd hE
  have hM32 : 2 ^ sm g n ≤ 2 ^ 32 := pow_le_of_le (by omega)
  have hT32 : 2 ^ T ≤ 2 ^ 5 := pow_le_of_le hT5
  have hmul : M * 2 ^ T ≤ 2 ^ 32 * 2 ^ 5 := Nat.mul_le_mul (by omega) hT32
  have hc1 : 1 ≤ c := by rcases Nat.eq_zero_or_pos c with y | y; (rw [y, Nat.mul_zero] at hc; omega); exact y
  have hoc : o ≤ o * c := Nat.le_mul_of_pos_right o hc1
  refine ⟨o, ho, by omega, ?_⟩
  refine a6.trans (b3.trans ?_)
  show fX6_findOrder_L127 N mW mP mF mH mM (nI f) (fun x2_28 => (some x2_28)) N (lN M * (nI (2 ^ T)).toInt64) (lN M * (nI (2 ^ T)).toInt64) (2 : Int64) = some (lN o)
  rw [nI_l (by omega), lN_mul, l2, hc]
  have := findOrder_L (N := N) (mF := mF) (mH := mH) (mM := mM) (k := fun x2_28 => (some x2_28)) hN hf hW hQ hw1 hw hP ho (38 + 2 ^ 19) N c o 2 38 (2 ^ 19) (by omega) (Nat.le_refl _) (by rw [Nat.mul_comm c o]; omega) (Nat.le_refl _) (by omega) (Nat.le_refl _) (by decide) hc1 ho.1 (Nat.dvd_refl o) (by omega) (fun a ha _ => ha)
  rw [Nat.mul_comm c o] at this
  exact this
/-- what the reference knows of form f -/
def KD (G f : Nat) (mF : Nat → Int64) (mH mM : Nat → Int32) (mD : Nat → Int64) : Prop := ∃ p e n o, FA p e n G ∧ n ≤ 32 ∧ MF f mF mH p e n ∧ mM f = nI n ∧ Od G o ∧ mD f = lN o
theorem sX6_know {N f w P : Nat} {mW : Nat → Int32} {mP : Nat → Int64} {mK : Nat → Int32} {mF : Nat → Int64} {mH mM : Nat → Int32} {mD : Nat → Int64} (hN : Big N) (hf : f < 8) (hW : mW f = nI w) (hQ : mP f = lN P) (hw1 : 3 ≤ w) (hw : w ≤ 32) (hP : P < 2 ^ w) (hodd : (2 ^ w ^^^ P) % 2 = 1) (hk : mK f ≠ 0 → KD (2 ^ w ^^^ P) f mF mH mM mD) : ∃ mK' mF' mH' mM' mD', fX6_know N mW mP mK mF mH mM mD (nI f) = some (mK', mF', mH', mM', mD') ∧ KD (2 ^ w ^^^ P) f mF' mH' mM' mD' ∧ MO f mF mF' mH mH' mM mM' ∧ ∀ x, x ≠ f → mK' x = mK x ∧ mD' x = mD x := by
  have ho : ¬ OOB (nI f) 8 := oob_nI hf (by decide)
  have hG := gq_dg (w := w) hP
  unfold fX6_know
  simp only [if_neg ho, nCl (show f < 2 ^ 31 by omega)]
  by_cases h : mK f = 0
  · rw [if_pos h, hW, hQ, l1, lSh 1 (by omega), Nat.one_mul, lO, or_xor hP, show (3 : Int64) = lN 3 from rfl, show (1 : Int32) = nI 1 from rfl]
    have hN' : 2 ^ 36 ≤ N := hN
    obtain ⟨p, e, n, mF', mH', mM', a1, a2, a3, a4, a5, a6⟩ := sX6_know48 (N := N) (f := f) (w := w) (mW := mW) (mP := mP) (mK := (upd mK f (vp_nar .boolean (nI 1)))) (mD := mD) (k := (fun mK_50 mF_51 mH_52 mM_53 mD_54 => ((fX6_findOrder N mW mP mF_51 mH_52 mM_53 (nI f)).bind (fun r_57 => (some (mK_50, mF_51, mH_52, mM_53, (vp_updL mD_54 f r_57))))))) hN hf hG hw hodd (2 ^ 17) N 3 1 0 (2 ^ w ^^^ P) (fun _ => 0) (fun _ => 0) mF mH (upd mM f (0 : Int32)) (by omega) (by omega) (by omega) ⟨by decide, by decide⟩ (Nat.le_refl _) (by omega) ⟨fun i hi => by omega, fun i j _ hj => by omega, pmul_1l _⟩ (fun q hq hqd => by
      have h1 := dv_odd hodd hqd
      have h2 := hq.1
      omega) (fun i hi => by omega) (by rw [pk_us]; rfl)
    obtain ⟨o, b1, b2, b3⟩ := sX6_findOrder (N := N) (mW := mW) (mP := mP) hN hf hW hQ hw1 hw hP hodd a1 a2 a3 a4
    rw [b3, Option.bind_some] at a6
    refine ⟨_, mF', mH', mM', _, a6, ⟨p, e, n, o, a1, a2, a3, a4, b1, pk_uLs⟩, ⟨a5.1, fun x hx => (a5.2 x hx).trans (pk_un hx)⟩, fun x hx => ⟨pk_un hx, pk_uLn hx⟩⟩
  · rw [if_neg h]
    exact ⟨mK, mF, mH, mM, mD, rfl, hk h, MO.rfl', fun x _ => ⟨rfl, rfl⟩⟩
/-! the class's orders -/
theorem sX0_without_L {N P d q : Nat} {k : Int64 → Option Int64} (hN : Big N) (hP : Dg P d) (hd1 : 1 ≤ d) (hd : d ≤ 32) (hq2 : 2 ≤ q) (hq : q < 2 ^ 31) : ∀ (j z c n : Nat), j < z → c + j = 32 → n < 2 ^ j → 1 ≤ n → Eo P n → ∃ n', n' ∣ n ∧ 1 ≤ n' ∧ Eo P n' ∧ ¬ (q ∣ n' ∧ Eo P (n' / q)) ∧ fX0_withoutPrime_L6 N (nI q) (lN P) k z (lN n) (nI c) = k (lN n') := by
  intro j
  induction j with
  | zero => intro z c n _ _ h h1; simp at h; omega
  | succ j ih =>
    intro z c n hz hc hn hn1 hE
    obtain ⟨z, rfl⟩ : ∃ y, z = y + 1 := ⟨z - 1, by omega⟩
    have h32 : 2 ^ (j + 1) ≤ 2 ^ 32 := pow_le_of_le (by omega)
    have hqn : ¬ lN q = (0 : Int64) := fun y => by have := (lE0 (by omega)).mp y; omega
    have hml := Nat.mod_lt n (show 0 < q by omega)
    have hrm : lRem (lN n) (lN q) = lN (n % q) := pk_lRem (by omega) (by omega) (by omega)
    have hdl : n / q ≤ n := Nat.div_le_self _ _
    have hdv : lN n / lN q = lN (n / q) := pk_lDiv (by omega) (by omega) (by omega)
    have hpl := pmod_lt hP (ppow 2 (n / q))
    have hd32 : 2 ^ d ≤ 2 ^ 32 := pow_le_of_le hd
    rw [fX0_withoutPrime_L6_s, fX0_withoutPrime_B6]
    simp only [nI_l hq, if_neg hqn, hrm, hdv, sX2_powerOfX hN hP hd1 (show d ≤ 61 by omega) (show n / q < 2 ^ 62 by omega), Option.bind_some]
    rw [if_neg (show ¬ (32 : Int32) ≤ nI c from nI_ge (b := 32) (by omega) (by decide))]
    by_cases h1 : n % q = 0
    · rw [h1, if_pos (show lN 0 = (0 : Int64) from rfl)]
      by_cases h2 : Eo P (n / q)
      · rw [(eo_pmod hP hd1).mpr h2, if_pos (show lN 1 = (1 : Int64) from rfl), nI_1]
        have hdvd := Nat.dvd_of_mod_eq_zero h1
        have hpos : 1 ≤ n / q := Nat.div_pos (Nat.le_of_dvd hn1 hdvd) (by omega)
        have hhalf : n / q ≤ n / 2 := Nat.div_le_div_left hq2 (by decide)
        rw [Nat.pow_succ] at hn
        obtain ⟨n', e1, e2, e3, e4, e5⟩ := ih z (c + 1) (n / q) (by omega) (by omega) (by omega) hpos h2
        exact ⟨n', Nat.dvd_trans e1 (Nat.div_dvd_of_dvd hdvd), e2, e3, e4, e5⟩
      · rw [if_neg (show ¬ lN (pmod (ppow 2 (n / q)) P) = (1 : Int64) from fun y => h2 ((eo_pmod hP hd1).mp ((lEq (b := 1) (by omega) (by decide)).mp y)))]
        exact ⟨n, Nat.dvd_refl n, hn1, hE, fun h => h2 h.2, rfl⟩
    · rw [if_neg (fun y => h1 ((lE0 (by omega)).mp y))]
      exact ⟨n, Nat.dvd_refl n, hn1, hE, fun h => h1 (Nat.mod_eq_zero_of_dvd h.1), rfl⟩
theorem sX0_period_L {N P d : Nat} {k : Int64 → Option Int64} (hN : Big N) (hP : Dg P d) (hd1 : 1 ≤ d) (hd : d ≤ 32) : ∀ (j z i n : Nat), j < z → i + j = 36 → n ∣ 2 ^ d - 1 → 1 ≤ n → Eo P n → (∀ a, a < i → ¬ (prL.getD a 0 ∣ n ∧ Eo P (n / prL.getD a 0))) → ∃ o, Od P o ∧ o < 2 ^ d ∧ fX0_periodOf_L22 N (lN P) (36 : Int32) k z (lN n) (nI i) = k (lN o) := by
  have h2d : 2 ≤ 2 ^ d := by have : 2 ^ 1 ≤ 2 ^ d := pow_le_of_le hd1; omega
  have hd32 : 2 ^ d ≤ 2 ^ 32 := pow_le_of_le hd
  have hN' : 2 ^ 36 ≤ N := hN
  intro j
  induction j with
  | zero =>
    intro z i n hz hi hdv hn1 hE hno
    obtain ⟨z, rfl⟩ : ∃ y, z = y + 1 := ⟨z - 1, by omega⟩
    have hle := Nat.le_of_dvd (by omega) hdv
    refine ⟨n, ?_, by omega, ?_⟩
    · obtain ⟨o, ho⟩ := od_ex hn1 hE
      obtain ⟨c, hc⟩ := ho.dvd hE
      rcases Nat.lt_or_ge c 2 with y | y
      · have : c = 1 := by
          rcases Nat.eq_zero_or_pos c with y2 | y2
          · rw [y2, Nat.mul_zero] at hc; omega
          · omega
        rw [this, Nat.mul_one] at hc
        rw [hc]; exact ho
      · exfalso
        obtain ⟨q, hq, hqc⟩ := pm_ex c y
        have hqn : q ∣ n := by rw [hc]; exact Nat.dvd_trans hqc ⟨o, Nat.mul_comm _ _⟩
        obtain ⟨a, ha, hae⟩ := prL_at q (pm_in hq hd1 hd (Nat.dvd_trans hqn hdv))
        refine hno a (by omega) ⟨by rw [hae]; exact hqn, ?_⟩
        rw [hae]
        obtain ⟨c', hc'⟩ := hqc
        have : n / q = o * c' := by rw [hc, hc', Nat.mul_left_comm]; exact Nat.mul_div_cancel_left _ (by have := hq.1; omega)
        rw [this]; exact ho.2.1.mul c'
    · rw [fX0_periodOf_L22_s, fX0_periodOf_B22, if_pos (show (36 : Int32) ≤ nI i from nI_le (a := 36) (by omega) (by omega))]
  | succ j ih =>
    intro z i n hz hi hdv hn1 hE hno
    obtain ⟨z, rfl⟩ : ∃ y, z = y + 1 := ⟨z - 1, by omega⟩
    have hle := Nat.le_of_dvd (by omega) hdv
    obtain ⟨k1, k2, k3⟩ := kPR_nat i (by omega)
    obtain ⟨n', e1, e2, e3, e4, e5⟩ := sX0_without_L (N := N) (k := fun x5_9 => (some x5_9)) hN hP hd1 hd k2 k3 32 N 0 n (by omega) (by omega) (by omega) hn1 hE
    have hw : fX0_withoutPrime N (lN n) (kPR i) (lN P) = some (lN n') := by unfold fX0_withoutPrime; rw [k1]; exact e5
    have hn'n := Nat.le_of_dvd hn1 e1
    obtain ⟨o, f1, f2, f3⟩ := ih z (i + 1) n' (by omega) (by omega) (Nat.dvd_trans e1 hdv) e2 e3 (fun a ha => by
      by_cases q : a = i
      · rw [q]; exact e4
      · intro h
        refine hno a (by omega) ⟨Nat.dvd_trans h.1 e1, ?_⟩
        obtain ⟨c, hc⟩ := e1
        obtain ⟨b, hb⟩ := h.1
        obtain ⟨_, k5, _⟩ := kPR_nat a (by omega)
        have h6 : n' / prL.getD a 0 = b := by rw [hb]; exact Nat.mul_div_cancel_left _ (by omega)
        have h7 : n / prL.getD a 0 = b * c := by rw [hc, hb, Nat.mul_assoc]; exact Nat.mul_div_cancel_left _ (by omega)
        rw [h7]
        have := h.2
        rw [h6] at this
        exact this.mul c)
    refine ⟨o, f1, f2, ?_⟩
    rw [fX0_periodOf_L22_s, fX0_periodOf_B22, if_neg (show ¬ (36 : Int32) ≤ nI i from nI_ge (b := 36) (by omega) (by decide)), if_neg (oob_nI (show i < 36 by omega) (by decide)), nCl (by omega), hw, Option.bind_some, nI_1]
    exact f3
theorem sX0_periodOf {N P d : Nat} (hN : Big N) (hP : Dg P d) (hd1 : 1 ≤ d) (hd : d ≤ 32) (hE : Eo P (2 ^ d - 1)) : ∃ o, Od P o ∧ o < 2 ^ d ∧ fX0_periodOf N (lN P) = some (lN o) := by
  have h2d : 2 ≤ 2 ^ d := by have : 2 ^ 1 ≤ 2 ^ d := pow_le_of_le hd1; omega
  have hN' : 2 ^ 36 ≤ N := hN
  have hP63 : P < 2 ^ 63 := Nat.lt_of_lt_of_le hP.2 (pow_le_of_le (by omega))
  obtain ⟨o, a, b, c⟩ := sX0_period_L (N := N) (k := fun x2_7 => (some x2_7)) hN hP hd1 hd 36 N 0 (2 ^ d - 1) (by omega) (by omega) (Nat.dvd_refl _) (by omega) hE (fun a ha => by omega)
  refine ⟨o, a, b, ?_⟩
  unfold fX0_periodOf
  rw [sX2_degree hN hP.pos hP63 hP, Option.bind_some, pk_two_sub d (by omega)]
  exact c
theorem sX0_lcm_L {N : Nat} {x0 x2 : Int64} {k : Int64 → Option Int64} : ∀ (j z c a b : Nat), 2 * j < z → c + 2 * j ≤ 80 → a < 2 ^ 63 → b < 2 ^ 63 → b < 2 ^ j → fX0_leastCommonMultiple_L9 N x0 x2 k z (lN a) (lN b) (nI c) = k (lN (Nat.gcd a b)) := by
  intro j
  have zero : ∀ (z c a : Nat), 0 < z → fX0_leastCommonMultiple_L9 N x0 x2 k z (lN a) (lN 0) (nI c) = k (lN a) := by
    intro z c a hz
    obtain ⟨z, rfl⟩ : ∃ y, z = y + 1 := ⟨z - 1, by omega⟩
    rw [fX0_leastCommonMultiple_L9_s, fX0_leastCommonMultiple_B9, if_pos (show lN 0 = (0 : Int64) from rfl)]
    split <;> rfl
  have step : ∀ (z c a b : Nat), c < 100 → 0 < b → a < 2 ^ 63 → b < 2 ^ 63 → fX0_leastCommonMultiple_L9 N x0 x2 k (z + 1) (lN a) (lN b) (nI c) = fX0_leastCommonMultiple_L9 N x0 x2 k z (lN b) (lN (a % b)) (nI (c + 1)) := by
    intro z c a b hc h0 ha hb
    have hbn : ¬ lN b = (0 : Int64) := fun y => by have := (lE0 hb).mp y; omega
    rw [fX0_leastCommonMultiple_L9_s, fX0_leastCommonMultiple_B9, if_neg (show ¬ (100 : Int32) ≤ nI c from nI_ge (b := 100) hc (by decide)), if_neg hbn, if_neg hbn, nI_1, show lRem (lN a) (lN b) = lN (a % b) from pk_lRem ha h0 hb]
  induction j with
  | zero =>
    intro z c a b hz hc ha hb hbj
    have : b = 0 := by simpa using hbj
    subst this
    rw [zero z c a (by omega), Nat.gcd_zero_right]
  | succ j ih =>
    intro z c a b hz hc ha hb hbj
    obtain ⟨z, rfl⟩ : ∃ y, z = y + 2 := ⟨z - 2, by omega⟩
    rcases Nat.eq_zero_or_pos b with rfl | h0
    · rw [zero (z + 2) c a (by omega), Nat.gcd_zero_right]
    · have hml := Nat.mod_lt a h0
      rw [step (z + 1) c a b (by omega) h0 ha hb]
      rcases Nat.eq_zero_or_pos (a % b) with h1 | h1
      · rw [h1, zero (z + 1) (c + 1) b (by omega), ← gcd_step a b, h1, Nat.gcd_zero_right]
      · rw [step z (c + 1) b (a % b) (by omega) h1 hb (by omega)]
        have hm2 := Nat.mod_lt b h1
        have hhalf : b % (a % b) < 2 ^ j := by
          rw [Nat.pow_succ] at hbj
          rcases Nat.lt_or_ge (a % b) (2 ^ j) with y | y
          · omega
          · have h4 : b % (a % b) + (a % b) ≤ b := by
              have h5 := Nat.div_add_mod b (a % b)
              have h6 : 1 ≤ b / (a % b) := Nat.div_pos (by omega) h1
              have h7 : (a % b) * 1 ≤ (a % b) * (b / (a % b)) := Nat.mul_le_mul_left _ h6
              omega
            omega
        rw [ih z (c + 1 + 1) (a % b) (b % (a % b)) (by omega) (by omega) (by omega) (by omega) hhalf, gcd_step b (a % b), gcd_step a b]
theorem sX0_lcm {N a b : Nat} (hN : Big N) (ha : 1 ≤ a) (ha2 : a < 2 ^ 63) (hb2 : b < 2 ^ 40) : fX0_leastCommonMultiple N (lN a) (lN b) = some (lN (lcv a b)) := by
  have hN' : 2 ^ 36 ≤ N := hN
  unfold fX0_leastCommonMultiple
  have hgp : 0 < Nat.gcd a b := Nat.gcd_pos_of_pos_left b ha
  have hgl : Nat.gcd a b ≤ a := Nat.le_of_dvd ha (Nat.gcd_dvd_left _ _)
  have hgn : ¬ lN (Nat.gcd a b) = (0 : Int64) := fun y => by have := (lE0 (by omega)).mp y; omega
  rw [show (0 : Int32) = nI 0 from rfl, sX0_lcm_L 40 N 0 a b (by omega) (by omega) ha2 (by omega) hb2, if_neg hgn, if_neg hgn, pk_lDiv (by omega) hgp (by omega), lN_mul]
  rfl
theorem found_two {N most L : Nat} {fN : Int32} {fP : Nat → Int64} {fT : Nat → Int32} {k : Int64 → Option (Int64 × Int64)} (hmo : most < 2 ^ 31) : ∀ (j z T : Nat), j < z → most ≤ 2 ^ (T + j) → T + j ≤ 5 → (T = 0 ∨ 2 ^ (T - 1) < most) → ∃ T', Two most T' ∧ fX0_foundPeriod_L80 N fN fP fT (nI most) k z (lN (L * 2 ^ T)) (nI (2 ^ T)) = k (lN (L * 2 ^ T')) := by
  intro j
  induction j with
  | zero =>
    intro z T hz h1 h2 h3
    obtain ⟨z, rfl⟩ : ∃ y, z = y + 1 := ⟨z - 1, by omega⟩
    have : 2 ^ T ≤ 2 ^ 5 := pow_le_of_le (by omega)
    rw [Nat.add_zero] at h1
    refine ⟨T, ⟨h1, h3⟩, ?_⟩
    rw [fX0_foundPeriod_L80_s, fX0_foundPeriod_B80, if_pos (nI_le h1 (by omega)), ite_self]
  | succ j ih =>
    intro z T hz h1 h2 h3
    obtain ⟨z, rfl⟩ : ∃ y, z = y + 1 := ⟨z - 1, by omega⟩
    have : 2 ^ T ≤ 2 ^ 5 := pow_le_of_le (by omega)
    by_cases h : most ≤ 2 ^ T
    · refine ⟨T, ⟨h, h3⟩, ?_⟩
      rw [fX0_foundPeriod_L80_s, fX0_foundPeriod_B80, if_pos (nI_le h (by omega)), ite_self]
    · obtain ⟨T', a, c⟩ := ih z (T + 1) (by omega) (by rw [show T + 1 + j = T + (j + 1) by omega]; exact h1) (by omega) (Or.inr (by rw [show T + 1 - 1 = T by omega]; omega))
      refine ⟨T', a, ?_⟩
      have h4 : 2 ^ T ≤ 2 ^ 4 := pow_le_of_le (by omega)
      rw [fX0_foundPeriod_L80_s, fX0_foundPeriod_B80, if_neg (show ¬ (32 : Int32) ≤ nI (2 ^ T) from nI_ge (b := 32) (by omega) (by omega)), if_neg (nI_ge (by omega) (by omega)), show (2 : Int32) = nI 2 from rfl, pk_mul, ← Nat.pow_succ, l2, lN_mul, Nat.mul_assoc, ← Nat.pow_succ]
      exact c
theorem irr_eo {p e : Nat → Nat} {n G a g : Nat} (hFA : FA p e n G) (hodd : G % 2 = 1) (hin : a < n) (hgd : Dg (p a) g) : Eo (p a) (2 ^ g - 1) := by
  have hirr := (hFA.1 a hin).1
  by_cases hx : Dv (p a) 2
  · exfalso
    have h1 : Dv (p a) G := by
      have := pr_dv (p := fun i => ppow (p i) (e i)) (a := 0) (j := a) n hin
      rw [Nat.zero_add] at this
      rw [← hFA.2.2]; exact (dv_pow (hFA.1 a hin).2).trans this
    have h2 := dv_odd hodd h1
    obtain ⟨c, hc⟩ := hx
    have hc0 : 0 < c := by rcases Nat.eq_zero_or_pos c with y | y; (rw [y, pmul_0l] at hc; omega); exact y
    have h4 : g ≤ 1 := by
      have h5 := Dv.le ⟨c, hc⟩ (by decide) hgd
      rcases Nat.lt_or_ge 1 g with y | y
      · have : 2 ^ 2 ≤ 2 ^ g := pow_le_of_le y
        omega
      · exact y
    have h7 : p a < 2 ^ 2 := Nat.lt_of_lt_of_le hgd.2 (pow_le_of_le (by omega))
    have h8 : p a = 3 := by have := hirr.1; omega
    rw [h8] at hc
    obtain ⟨C, hC⟩ := dg_ex hc0
    have h9 := hC.mul (show Dg 3 1 from ⟨by decide, by decide⟩)
    rw [← hc] at h9
    have h10 := h9.uniq (show Dg 2 1 from ⟨by decide, by decide⟩)
    have h11 : C = 0 := by omega
    subst h11
    have : c = 1 := by have := hC.2; simp at this; omega
    rw [this] at hc
    revert hc; decide
  · exact fermat1 hirr hgd hx
theorem found_L {N n w G : Nat} {p e g o : Nat → Nat} {fP : Nat → Int64} {fT : Nat → Int32} {k : Int64 → Int32 → Option (Int64 × Int64)} (hN : Big N) (hFA : FA p e n G) (hodd : G % 2 = 1) (hn : n ≤ 9) (hw : w ≤ 32) (hg : ∀ i, i < n → Dg (p i) (g i) ∧ 1 ≤ g i) (hgs : sm g n ≤ w) (hes : ∀ i, i < n → e i ≤ w) (hP : AP fP p n) (hT : AT fT e n) (ho : ∀ i, i < n → Od (p i) (o i) ∧ o i < 2 ^ g i ∧ fX0_periodOf N (lN (p i)) = some (lN (o i))) : ∀ (j z i L most : Nat), j < z → i + j = n → 1 ≤ L → L ≤ 2 ^ sm g i → (∀ a, a < i → o a ∣ L) → (∀ m, (∀ a, a < i → o a ∣ m) → L ∣ m) → Mst e i most → most ≤ 32 → ∃ L' most', 1 ≤ L' ∧ (∀ a, a < n → o a ∣ L') ∧ (∀ m, (∀ a, a < n → o a ∣ m) → L' ∣ m) ∧ L' ≤ 2 ^ 32 ∧ Mst e n most' ∧ most' ≤ 32 ∧ fX0_foundPeriod_L23 N (nI n) fP fT k z (lN L) (nI most) (nI i) = k (lN L') (nI most') := by
  have hsm : ∀ a b, a ≤ b → sm g a ≤ sm g b := by
    intro a b hab
    obtain ⟨c, rfl⟩ : ∃ c, b = a + c := ⟨b - a, by omega⟩
    rw [sm_split]; omega
  intro j
  induction j with
  | zero =>
    intro z i L most hz hi h1 h2 h3 h3' h4 h5
    obtain ⟨z, rfl⟩ : ∃ y, z = y + 1 := ⟨z - 1, by omega⟩
    have : i = n := by omega
    subst this
    have h32 : 2 ^ sm g i ≤ 2 ^ 32 := pow_le_of_le (by omega)
    refine ⟨L, most, h1, h3, h3', by omega, h4, h5, ?_⟩
    rw [fX0_foundPeriod_L23_s, fX0_foundPeriod_B23, if_pos (nI_le (Nat.le_refl _) (by omega))]
  | succ j ih =>
    intro z i L most hz hi h1 h2 h3 h3' h4 h5
    obtain ⟨z, rfl⟩ : ∃ y, z = y + 1 := ⟨z - 1, by omega⟩
    have hin : i < n := by omega
    have ho2 : ¬ OOB (nI i) 9 := oob_nI (by omega) (by decide)
    have hs1 : sm g (i + 1) = sm g i + g i := rfl
    have hs2 := hsm (i + 1) n (by omega)
    have hL32 : 2 ^ sm g i ≤ 2 ^ 32 := pow_le_of_le (by omega)
    have hm32 : 2 ^ g i ≤ 2 ^ 32 := pow_le_of_le (by omega)
    obtain ⟨o1, o2, o3⟩ := ho i hin
    obtain ⟨l1', l2', l3', l4', l5'⟩ := lcv_ok (a := L) (b := o i) h1 o1.1
    have hle : lcv L (o i) ≤ 2 ^ sm g (i + 1) := by
      refine Nat.le_trans l4' ?_
      rw [hs1, Nat.pow_add]
      exact Nat.mul_le_mul h2 (by omega)
    have hE : ∀ a, a < i + 1 → o a ∣ lcv L (o i) := by
      intro a ha
      by_cases q : a = i
      · rw [q]; exact l3'
      · exact Nat.dvd_trans (h3 a (by omega)) l2'
    have hE' : ∀ m, (∀ a, a < i + 1 → o a ∣ m) → lcv L (o i) ∣ m := fun m hm => l5' m (h3' m (fun a ha => hm a (by omega))) (hm i (by omega))
    rw [fX0_foundPeriod_L23_s, fX0_foundPeriod_B23]
    simp only [if_neg ho2, nCl (show i < 2 ^ 31 by omega), hP i hin, hT i hin, o3, Option.bind_some, sX0_lcm hN h1 (show L < 2 ^ 63 by omega) (show o i < 2 ^ 40 by omega), nI_1]
    rw [if_neg (nI_ge hin (by omega))]
    have hei := hes i hin
    by_cases hm : e i ≤ most
    · rw [if_pos (nI_le hm (by omega))]
      exact ih z (i + 1) _ most (by omega) (by omega) l1' hle hE hE' (h4.keep hm) h5
    · rw [if_neg (nI_ge (by omega) (by omega))]
      exact ih z (i + 1) _ (e i) (by omega) (by omega) l1' hle hE hE' (h4.more (by omega)) (by omega)
theorem sX0_foundPeriod {N G w : Nat} {fN : Int32} {fO : Int64} {fP : Nat → Int64} {fT : Nat → Int32} (hN : Big N) (hG : Dg G w) (hw : w ≤ 32) (hodd : G % 2 = 1) (hF : FacOk fN fP fT G) (hO : fO = 0 ∨ ∃ o, Od G o ∧ fO = lN o) : ∃ o, Od G o ∧ fX0_foundPeriod N fN fO fP fT = some (lN o, lN o) := by
  unfold fX0_foundPeriod
  by_cases h : fO = 0
  · rw [if_pos h]
    obtain ⟨p, e, n, hn, hFA, rfl, hP, hT⟩ := hF
    obtain ⟨g, hg, hgs, hes⟩ := fa_deg hFA hG
    have hN' : 2 ^ 36 ≤ N := hN
    have hsm : ∀ a b, a ≤ b → sm g a ≤ sm g b := by
      intro a b hab
      obtain ⟨c, rfl⟩ : ∃ c, b = a + c := ⟨b - a, by omega⟩
      rw [sm_split]; omega
    have hoe : ∀ i, ∃ o, i < n → Od (p i) o ∧ o < 2 ^ g i ∧ fX0_periodOf N (lN (p i)) = some (lN o) := by
      intro i
      by_cases hi : i < n
      · have h1 := hsm (i + 1) n (by omega)
        have h2 : sm g (i + 1) = sm g i + g i := rfl
        obtain ⟨o, a, b, c⟩ := sX0_periodOf (N := N) hN (hg i hi).1 (hg i hi).2 (by omega) (irr_eo hFA hodd hi (hg i hi).1)
        exact ⟨o, fun _ => ⟨a, b, c⟩⟩
      · exact ⟨0, fun y => absurd y hi⟩
    let o := fun i => Classical.choose (hoe i)
    have ho : ∀ i, i < n → Od (p i) (o i) ∧ o i < 2 ^ g i ∧ fX0_periodOf N (lN (p i)) = some (lN (o i)) := fun i hi => Classical.choose_spec (hoe i) hi
    obtain ⟨L, most, a1, a2, a3, a4, a5, a6, a7⟩ := found_L (N := N) (k := (fun fO_15 x1_16 => (fX0_foundPeriod_L80 N (nI n) fP fT x1_16 (fun fO_22 => (some (fO_22, fO_22))) N fO_15 (1 : Int32)))) hN hFA hodd hn hw hg hgs hes hP hT ho n N 0 1 1 (by omega) (by omega) (Nat.le_refl _) (Nat.le_refl _) (fun a ha => by omega) (fun m _ => Nat.one_dvd m) (Mst.zero e) (by omega)
    obtain ⟨T, b1, b2⟩ := found_two (N := N) (most := most) (L := L) (fN := nI n) (fP := fP) (fT := fT) (k := (fun fO_22 => (some (fO_22, fO_22)))) (by omega) 5 N 0 (by omega) a6 (by omega) (Or.inl rfl)
    refine ⟨L * 2 ^ T, od_two hFA (fun i hi => (ho i hi).1) a1 a2 a3 a5 b1, ?_⟩
    rw [Nat.pow_zero, Nat.mul_one] at b2
    exact a7.trans b2
  · rw [if_neg h]
    rcases hO with y | ⟨o, a, b⟩
    · exact absurd y h
    · exact ⟨o, a, by rw [b]⟩
/-- what a Factors of the class holds between calls -/
def CF (fN : Int32) (fO fG : Int64) (fP : Nat → Int64) (fT : Nat → Int32) : Prop := fG = 0 ∨ ∃ G, 0 < G ∧ G < 2 ^ 33 ∧ fG = lN G ∧ FacOk fN fP fT G ∧ (fO = 0 ∨ ∃ o, Od G o ∧ fO = lN o)
theorem cf_find {N G w : Nat} {fN : Int32} {fO fG : Int64} {fP : Nat → Int64} {fT : Nat → Int32} (hN : Big N) (hG : Dg G w) (hw3 : 2 ≤ w) (hw : w ≤ 32) (ho : G % 2 = 1) (hC : CF fN fO fG fP fT) : ∃ fN' fO' fP' fT', FacOk fN' fP' fT' G ∧ (fO' = 0 ∨ ∃ o, Od G o ∧ fO' = lN o) ∧ fX0_findFor N fN fO fG fP fT (lN G) = some (fN', fO', lN G, fP', fT') := by
  have hG63 : G < 2 ^ 63 := Nat.lt_of_lt_of_le hG.2 (pow_le_of_le (by omega))
  have key : fG = lN G → FacOk fN fP fT G ∧ (fO = 0 ∨ ∃ o, Od G o ∧ fO = lN o) := by
    intro h
    rcases hC with y | ⟨G', a, b, c, d, e⟩
    · rw [y] at h
      have := (lE0 hG63).mp h.symm
      have := hG.pos; omega
    · rw [c] at h
      have : G' = G := (lEq (by omega) hG63).mp h
      subst this
      exact ⟨d, e⟩
  obtain ⟨fN', fO', fP', fT', a, b, c⟩ := sX0_findFor (N := N) hN hG hw3 hw ho (fun h => (key h).1)
  refine ⟨fN', fO', fP', fT', a, ?_, c⟩
  rcases b with ⟨h1, _, h3, _, _⟩ | h
  · rw [h3]; exact (key h1).2
  · exact Or.inl h
theorem CF.of {G w : Nat} {fN : Int32} {fO : Int64} {fP : Nat → Int64} {fT : Nat → Int32} (hG : Dg G w) (hw : w ≤ 32) (h : FacOk fN fP fT G) (h2 : fO = 0 ∨ ∃ o, Od G o ∧ fO = lN o) : CF fN fO (lN G) fP fT := Or.inr ⟨G, hG.pos, Nat.lt_of_lt_of_le hG.2 (pow_le_of_le (by omega)), rfl, h, h2⟩
/-- what the reference holds of its forms: known ones are right -/
def RK (k : Nat) (mW : Nat → Int32) (mP : Nat → Int64) (mK : Nat → Int32) (mF : Nat → Int64) (mH mM : Nat → Int32) (mD : Nat → Int64) : Prop := ∀ f w P, f < k → mW f = nI w → w ≤ 32 → mP f = lN P → P < 2 ^ w → mK f ≠ 0 → KD (2 ^ w ^^^ P) f mF mH mM mD
theorem rk_on {k f w P : Nat} {mW : Nat → Int32} {mP : Nat → Int64} {mK mK' : Nat → Int32} {mF mF' : Nat → Int64} {mH mM mH' mM' : Nat → Int32} {mD mD' : Nat → Int64} (h : RK k mW mP mK mF mH mM mD) (hk : k ≤ 8) (hW : mW f = nI w) (hw : w ≤ 32) (hQ : mP f = lN P) (hP : P < 2 ^ w) (h1 : KD (2 ^ w ^^^ P) f mF' mH' mM' mD') (h2 : MO f mF mF' mH mH' mM mM') (h3 : ∀ x, x ≠ f → mK' x = mK x ∧ mD' x = mD x) : RK k mW mP mK' mF' mH' mM' mD' := by
  intro f2 w2 P2 hf2 hW2 hw2 hQ2 hP2 hK2
  have hp32 : ∀ w, w ≤ 32 → 2 ^ w ≤ 2 ^ 32 := fun w h => pow_le_of_le h
  by_cases q : f2 = f
  · subst q
    rw [hW] at hW2
    have e1 : w = w2 := by
      have h5 := (nI_leI (a := w) (b := w2) (by omega) (by omega)).mp (by rw [hW2]; exact Int32.le_refl _)
      have h6 := (nI_leI (a := w2) (b := w) (by omega) (by omega)).mp (by rw [hW2]; exact Int32.le_refl _)
      omega
    subst e1
    rw [hQ] at hQ2
    have := hp32 w hw
    have e2 : P = P2 := (lEq (by omega) (by omega)).mp hQ2
    subst e2
    exact h1
  · obtain ⟨a, b⟩ := h3 f2 q
    rw [a] at hK2
    obtain ⟨p, e, n, o, c1, c2, c3, c4, c5, c6⟩ := h f2 w2 P2 hf2 hW2 hw2 hQ2 hP2 hK2
    refine ⟨p, e, n, o, c1, c2, fun i hi => ?_, by rw [h2.2 f2 q]; exact c4, c5, by rw [b]; exact c6⟩
    obtain ⟨d1, d2⟩ := h2.1 (33 * f2 + i) (by omega)
    rw [d1, d2]; exact c3 i hi
theorem kd_fac {G f : Nat} {fN : Int32} {fP : Nat → Int64} {fT : Nat → Int32} {mF : Nat → Int64} {mH mM : Nat → Int32} {mD : Nat → Int64} (h : FacOk fN fP fT G) (h2 : KD G f mF mH mM mD) : ∃ (n : Nat) (p e : Nat → Nat), n ≤ 9 ∧ fN = nI n ∧ mM f = nI n ∧ (∀ i, i < n → fP i = lN (p i) ∧ mF (33 * f + i) = lN (p i) ∧ fT i = nI (e i) ∧ mH (33 * f + i) = nI (e i)) ∧ ∃ o, Od G o ∧ mD f = lN o := by
  obtain ⟨p, e, n, hn, hFA, h3, h4, h5⟩ := h
  obtain ⟨p', e', n', o, a1, a2, a3, a4, a5, a6⟩ := h2
  obtain ⟨b1, b2⟩ := FA.uniq n hFA a1
  subst b1
  refine ⟨n, p, e, hn, h3, a4, fun i hi => ⟨h4 i hi, ?_, h5 i hi, ?_⟩, o, a5, a6⟩
  · rw [(a3 i hi).1, (b2 i hi).1]
  · rw [(a3 i hi).2, (b2 i hi).2]
theorem ag_factors {N k : Nat} {mW mI mO : Nat → Int32} {mP mS mE : Nat → Int64} {rw ri ro : Int32} {rg rs re : Int64} {fN : Int32} {fO fG : Int64} {fP : Nat → Int64} {fT : Nat → Int32} {mK mH mM : Nat → Int32} {mF mD : Nat → Int64} (hN : Big N) (hk : k ≤ 8) (x1 : Int32) (hF : ∀ f, f < k → x1 = nI f → FR rw rg rs re ri ro (mW f) (mP f) (mS f) (mE f) (mI f) (mO f)) (hC : CF fN fO fG fP fT) (hR : RK k mW mP mK mF mH mM mD) : ∃ (r fN' : Int32) (fO' fG' : Int64) (fP' : Nat → Int64) (fT' mK' : Nat → Int32) (mF' : Nat → Int64) (mH' mM' : Nat → Int32) (mD' : Nat → Int64), CF fN' fO' fG' fP' fT' ∧ RK k mW mP mK' mF' mH' mM' mD' ∧ fX5_factors N (nI k) rg fN fO fG fP fT x1 = some (r, fN', fO', fG', fP', fT') ∧ fX6_factors N (nI k) mW mP mK mF mH mM mD x1 = some (r, mK', mF', mH', mM', mD') := by
  rcases isForm_c N k hk x1 with ⟨a, b⟩ | ⟨f, hf, rfl, a, b⟩
  · exact ⟨-1, fN, fO, fG, fP, fT, mK, mF, mH, mM, mD, hC, hR, by unfold fX5_factors; rw [a]; rfl, by unfold fX6_factors; rw [b]; rfl⟩
  · obtain ⟨w, P, st, en, ⟨w1, w2⟩, ⟨p1, p2, p3, p4⟩, ⟨e1, e2, e3, e4⟩, ⟨g1, g2, g3, g4⟩, g5, g6⟩ := hF f hf rfl
    have hf8 : f < 8 := by omega
    have ho : ¬ OOB (nI f) 8 := oob_nI hf8 (by decide)
    have z10 : ¬ (1 : Int32) = 0 := by decide
    have hm := gq_dg p1
    have hod := gq_odd (w := w) (by omega) p2
    subst e2
    obtain ⟨fN', fO', fP', fT', c1, c2, c3⟩ := cf_find (N := N) hN hm (by omega) w2 hod hC
    obtain ⟨mK', mF', mH', mM', mD', d1, d2, d3, d4⟩ := sX6_know (N := N) hN hf8 g1 g2 w1 w2 p1 hod (hR f w P hf g1 w2 g2 p1)
    obtain ⟨n, p, e, h1, h2, h3, h4, _⟩ := kd_fac c1 d2
    refine ⟨nI n, fN', fO', _, fP', fT', mK', mF', mH', mM', mD', CF.of hm w2 c1 c2, rk_on hR hk g1 w2 g2 p1 d2 d3 d4, ?_, ?_⟩
    · unfold fX5_factors
      simp only [a, Option.bind_some, if_neg z10, if_neg ho, c3, h2]
    · unfold fX6_factors
      simp only [b, Option.bind_some, if_neg z10, if_neg ho, d1, nCl (show f < 2 ^ 31 by omega), h3]
theorem ag_order {N k : Nat} {mW mI mO : Nat → Int32} {mP mS mE : Nat → Int64} {rw ri ro : Int32} {rg rs re : Int64} {fN : Int32} {fO fG : Int64} {fP : Nat → Int64} {fT : Nat → Int32} {mK mH mM : Nat → Int32} {mF mD : Nat → Int64} (hN : Big N) (hk : k ≤ 8) (x1 : Int32) (hF : ∀ f, f < k → x1 = nI f → FR rw rg rs re ri ro (mW f) (mP f) (mS f) (mE f) (mI f) (mO f)) (hC : CF fN fO fG fP fT) (hR : RK k mW mP mK mF mH mM mD) : ∃ (r : Int64) (fN' : Int32) (fO' fG' : Int64) (fP' : Nat → Int64) (fT' mK' : Nat → Int32) (mF' : Nat → Int64) (mH' mM' : Nat → Int32) (mD' : Nat → Int64), CF fN' fO' fG' fP' fT' ∧ RK k mW mP mK' mF' mH' mM' mD' ∧ fX5_order N (nI k) rg fN fO fG fP fT x1 = some (r, fN', fO', fG', fP', fT') ∧ fX6_order N (nI k) mW mP mK mF mH mM mD x1 = some (r, mK', mF', mH', mM', mD') := by
  rcases isForm_c N k hk x1 with ⟨a, b⟩ | ⟨f, hf, rfl, a, b⟩
  · exact ⟨-1, fN, fO, fG, fP, fT, mK, mF, mH, mM, mD, hC, hR, by unfold fX5_order; rw [a]; rfl, by unfold fX6_order; rw [b]; rfl⟩
  · obtain ⟨w, P, st, en, ⟨w1, w2⟩, ⟨p1, p2, p3, p4⟩, ⟨e1, e2, e3, e4⟩, ⟨g1, g2, g3, g4⟩, g5, g6⟩ := hF f hf rfl
    have hf8 : f < 8 := by omega
    have ho : ¬ OOB (nI f) 8 := oob_nI hf8 (by decide)
    have z10 : ¬ (1 : Int32) = 0 := by decide
    have hm := gq_dg p1
    have hod := gq_odd (w := w) (by omega) p2
    subst e2
    obtain ⟨fN', fO', fP', fT', c1, c2, c3⟩ := cf_find (N := N) hN hm (by omega) w2 hod hC
    obtain ⟨mK', mF', mH', mM', mD', d1, d2, d3, d4⟩ := sX6_know (N := N) hN hf8 g1 g2 w1 w2 p1 hod (hR f w P hf g1 w2 g2 p1)
    obtain ⟨n, p, e, h1, h2, h3, h4, o, h5, h6⟩ := kd_fac c1 d2
    obtain ⟨o', i1, i2⟩ := sX0_foundPeriod (N := N) hN hm w2 hod c1 c2
    have := h5.uniq i1
    subst this
    refine ⟨lN o, fN', lN o, _, fP', fT', mK', mF', mH', mM', mD', CF.of hm w2 c1 (Or.inr ⟨o, h5, rfl⟩), rk_on hR hk g1 w2 g2 p1 d2 d3 d4, ?_, ?_⟩
    · unfold fX5_order
      simp only [a, Option.bind_some, if_neg z10, if_neg ho, c3, i2]
    · unfold fX6_order
      simp only [b, Option.bind_some, if_neg z10, if_neg ho, d1, nCl (show f < 2 ^ 31 by omega), h6]
theorem ag_factor {N k : Nat} {mW mI mO : Nat → Int32} {mP mS mE : Nat → Int64} {rw ri ro : Int32} {rg rs re : Int64} {fN : Int32} {fO fG : Int64} {fP : Nat → Int64} {fT : Nat → Int32} {mK mH mM : Nat → Int32} {mF mD : Nat → Int64} (hN : Big N) (hk : k ≤ 8) (x1 : Int32) (hF : ∀ f, f < k → x1 = nI f → FR rw rg rs re ri ro (mW f) (mP f) (mS f) (mE f) (mI f) (mO f)) (hC : CF fN fO fG fP fT) (hR : RK k mW mP mK mF mH mM mD) (x2 x3 : Int32) : ∃ (r : Int64) (fN' : Int32) (fO' fG' : Int64) (fP' : Nat → Int64) (fT' mK' : Nat → Int32) (mF' : Nat → Int64) (mH' mM' : Nat → Int32) (mD' : Nat → Int64), CF fN' fO' fG' fP' fT' ∧ RK k mW mP mK' mF' mH' mM' mD' ∧ fX5_factor N (nI k) rg fN fO fG fP fT x1 x2 x3 = some (r, fN', fO', fG', fP', fT') ∧ fX6_factor N (nI k) mW mP mK mF mH mM mD x1 x2 x3 = some (r, mK', mF', mH', mM', mD') := by
  rcases isForm_c N k hk x1 with ⟨a, b⟩ | ⟨f, hf, rfl, a, b⟩
  · exact ⟨-1, fN, fO, fG, fP, fT, mK, mF, mH, mM, mD, hC, hR, by unfold fX5_factor; rw [a]; rfl, by unfold fX6_factor; rw [b]; rfl⟩
  · obtain ⟨w, P, st, en, ⟨w1, w2⟩, ⟨p1, p2, p3, p4⟩, ⟨e1, e2, e3, e4⟩, ⟨g1, g2, g3, g4⟩, g5, g6⟩ := hF f hf rfl
    have hf8 : f < 8 := by omega
    have ho : ¬ OOB (nI f) 8 := oob_nI hf8 (by decide)
    have z10 : ¬ (1 : Int32) = 0 := by decide
    have hm := gq_dg p1
    have hod := gq_odd (w := w) (by omega) p2
    subst e2
    by_cases h30 : x3 < 0
    · refine ⟨-1, fN, fO, fG, fP, fT, mK, mF, mH, mM, mD, hC, hR, ?_, ?_⟩
      · unfold fX5_factor
        simp only [a, Option.bind_some, if_neg z10, if_pos h30, ite_self]
      · unfold fX6_factor
        simp only [b, Option.bind_some, if_neg z10, if_pos h30]
    by_cases h31 : x3 ≤ 1
    · obtain ⟨mK', mF', mH', mM', mD', d1, d2, d3, d4⟩ := sX6_know (N := N) hN hf8 g1 g2 w1 w2 p1 hod (hR f w P hf g1 w2 g2 p1)
      have hRK := rk_on hR hk g1 w2 g2 p1 d2 d3 d4
      by_cases h20 : x2 < 0
      · refine ⟨-1, fN, fO, fG, fP, fT, mK', mF', mH', mM', mD', hC, hRK, ?_, ?_⟩
        · unfold fX5_factor
          simp only [a, Option.bind_some, if_neg z10, if_pos h20]
        · unfold fX6_factor
          simp only [b, Option.bind_some, if_neg z10, if_neg h30, if_pos h31, d1, if_pos h20]
      · obtain ⟨fN', fO', fP', fT', c1, c2, c3⟩ := cf_find (N := N) hN hm (by omega) w2 hod hC
        obtain ⟨n, p, e, h1, h2, h3, h4, _⟩ := kd_fac c1 d2
        have hCF := CF.of hm w2 c1 c2
        obtain ⟨i, hi31, rfl⟩ := nI_of h20
        by_cases hin : i < n
        · have ho9 : ¬ OOB (nI i) 9 := oob_nI (by omega) (by decide)
          have hix : (33 : Int32) * nI f + nI i = nI (33 * f + i) := by rw [show (33 : Int32) = nI 33 from rfl, pk_mul, nI_add]
          have ho2 : ¬ OOB (nI (33 * f + i)) 264 := oob_nI (by omega) (by decide)
          obtain ⟨q1, q2, q3, q4⟩ := h4 i hin
          have hlt : nI i < nI n := nI_lt hin (by omega)
          by_cases h3z : x3 = 0
          · refine ⟨lN (p i), fN', fO', _, fP', fT', mK', mF', mH', mM', mD', hCF, hRK, ?_, ?_⟩
            · unfold fX5_factor
              simp only [a, Option.bind_some, if_neg z10, if_neg h20, if_neg h30, if_pos h31, if_neg ho, c3, h2, if_pos hlt, if_pos h3z, if_neg ho9, nCl hi31, q1]
            · unfold fX6_factor
              simp only [b, Option.bind_some, if_neg z10, if_neg h30, if_pos h31, d1, if_neg h20, if_neg ho, nCl (show f < 2 ^ 31 by omega), h3, if_pos hlt, if_pos h3z, hix, if_neg ho2, nCl (show 33 * f + i < 2 ^ 31 by omega), q2]
          · refine ⟨(nI (e i)).toInt64, fN', fO', _, fP', fT', mK', mF', mH', mM', mD', hCF, hRK, ?_, ?_⟩
            · unfold fX5_factor
              simp only [a, Option.bind_some, if_neg z10, if_neg h20, if_neg h30, if_pos h31, if_neg ho, c3, h2, if_pos hlt, if_neg h3z, if_neg ho9, nCl hi31, q3]
            · unfold fX6_factor
              simp only [b, Option.bind_some, if_neg z10, if_neg h30, if_pos h31, d1, if_neg h20, if_neg ho, nCl (show f < 2 ^ 31 by omega), h3, if_pos hlt, if_neg h3z, hix, if_neg ho2, nCl (show 33 * f + i < 2 ^ 31 by omega), q4]
        · have hnl : ¬ nI i < nI n := nI_nlt (by omega) hi31
          refine ⟨-1, fN', fO', _, fP', fT', mK', mF', mH', mM', mD', hCF, hRK, ?_, ?_⟩
          · unfold fX5_factor
            simp only [a, Option.bind_some, if_neg z10, if_neg h20, if_neg h30, if_pos h31, if_neg ho, c3, h2, if_neg hnl]
          · unfold fX6_factor
            simp only [b, Option.bind_some, if_neg z10, if_neg h30, if_pos h31, d1, if_neg h20, if_neg ho, nCl (show f < 2 ^ 31 by omega), h3, if_neg hnl]
    · refine ⟨-1, fN, fO, fG, fP, fT, mK, mF, mH, mM, mD, hC, hR, ?_, ?_⟩
      · unfold fX5_factor
        simp only [a, Option.bind_some, if_neg z10, if_neg h30, if_neg h31, ite_self]
      · unfold fX6_factor
        simp only [b, Option.bind_some, if_neg z10, if_neg h30, if_neg h31]

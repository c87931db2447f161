/-! ===== the reference's factors of a form ===== -/
theorem sX6_degree_L {N p d : Nat} {k : Int32 → Option Int32} (hd : Dg p d) (hp : p < 2 ^ 34) : ∀ (j n c : Nat) (x : Int32), j < n → c + j = 34 → (d < c → x = nI d) → fX6_degree_L4 N (lN p) k n x (nI c) = k (nI d) := by
  intro j
  have hd34 := dg_lt hd hp
  induction j with
  | zero =>
    intro n c x hn hc hx
    obtain ⟨n, rfl⟩ : ∃ z, n = z + 1 := ⟨n - 1, by omega⟩
    rw [fX6_degree_L4_s, fX6_degree_B4]
    rw [if_pos (show (34 : Int32) ≤ nI c from nI_le (a := 34) (by omega) (by omega)), hx (by omega)]
  | succ j ih =>
    intro n c x hn hc hx
    obtain ⟨n, rfl⟩ : ∃ z, n = z + 1 := ⟨n - 1, by omega⟩
    rw [fX6_degree_L4_s, fX6_degree_B4]
    rw [if_neg (show ¬ (34 : Int32) ≤ nI c from nI_ge (b := 34) (by omega) (by decide)), nI_1]
    by_cases hb : p.testBit c = true
    · rw [if_pos ((lBitR (by omega) (by omega)).mpr hb)]
      refine ih n (c + 1) _ (by omega) (by omega) (fun h => ?_)
      have h1 : 2 ^ c ≤ p := Nat.ge_two_pow_of_testBit hb
      have h2 : c ≤ d := by
        rcases Nat.lt_or_ge d c with z | z
        · have := pow_le_of_le (show d + 1 ≤ c by omega); have := hd.2; omega
        · exact z
      rw [show c = d by omega]
    · rw [if_neg (fun q => hb ((lBitR (by omega) (by omega)).mp q))]
      refine ih n (c + 1) _ (by omega) (by omega) (fun h => hx ?_)
      rcases Nat.lt_or_ge d c with z | z
      · exact z
      · exfalso
        apply hb
        rw [show c = d by omega, Nat.testBit_eq_decide_div_mod_eq]
        have h1 : p / 2 ^ d = 1 := by
          have := hd.1; have := hd.2
          rw [Nat.div_eq_iff (Nat.two_pow_pos d)]
          rw [Nat.pow_succ] at this
          omega
        rw [h1]; rfl
theorem sX6_degree {N p d : Nat} (hN : Big N) (hd : Dg p d) (hp : p < 2 ^ 34) : fX6_degree N (lN p) = some (nI d) := by
  unfold fX6_degree
  have hN' : 2 ^ 36 ≤ N := hN
  exact sX6_degree_L (k := fun x => some x) hd hp 34 N 0 _ (by omega) rfl (fun h => by omega)
theorem sX6_rest_L {N p v l : Nat} {k : Int64 → Option Int64} (hv : Dg v l) (hl : l ≤ 34) : ∀ (i n rest : Nat), i < n → l + i ≤ 34 → rest < 2 ^ (l + i) → Cg v rest p → fX6_rest_L7 N (lN v) (nI l) k n (lN rest) (nI (l + i) - 1) = k (lN (pmod p v)) := by
  intro i
  induction i with
  | zero =>
    intro n rest hn hi hr hc
    obtain ⟨n, rfl⟩ : ∃ z, n = z + 1 := ⟨n - 1, by omega⟩
    rw [fX6_rest_L7_s, fX6_rest_B7]
    rw [if_pos ((nJ_lt (by omega) (by omega)).mpr (by omega)), pmod_eq hv hr hc]
  | succ i ih =>
    intro n rest hn hi hr hc
    obtain ⟨n, rfl⟩ : ∃ z, n = z + 1 := ⟨n - 1, by omega⟩
    rw [fX6_rest_L7_s, fX6_rest_B7]
    have hr63 : 2 ^ (l + (i + 1)) ≤ 2 ^ 63 := pow_le_of_le (by omega)
    rw [if_neg (fun e => by have := (nJ_lt (by omega) (by omega)).mp e; omega), show l + (i + 1) = l + i + 1 by omega, nJs, nJn]
    by_cases hb : rest.testBit (l + i) = true
    · rw [if_pos ((lBitR (by omega) (by omega)).mpr hb), nSub (by omega), show l + i - l = i by omega, lSh v (by omega), lX]
      have h3 : 2 ^ (l + i) ≤ rest := Nat.ge_two_pow_of_testBit hb
      have h4 : Dg (v * 2 ^ i) (l + i) := by
        rw [← pmul_pow]
        exact hv.mul ⟨Nat.le_refl _, pow_lt_of_lt (by omega)⟩
      refine ih n _ (by omega) (by omega) (xor_drop h3 (by rw [show l + i + 1 = l + (i + 1) by omega]; exact hr) h4.1 h4.2) ?_
      have h5 : Cg v (v * 2 ^ i) 0 := by rw [cg_0, ← pmul_pow]; exact (Dv.rfl' v).mulr _
      have := hc.xor h5
      rwa [Nat.xor_zero] at this
    · rw [if_neg (fun e => hb ((lBitR (by omega) (by omega)).mp e)), l0, lX, Nat.xor_zero]
      refine ih n rest (by omega) (by omega) ?_ hc
      apply Nat.lt_pow_two_of_testBit
      intro z hz
      rcases Nat.eq_or_lt_of_le hz with rfl | h
      · simpa using hb
      · exact Nat.testBit_lt_two_pow (Nat.lt_of_lt_of_le hr (pow_le_of_le (by omega)))
theorem sX6_rest {N p v l : Nat} (hN : Big N) (hp : p < 2 ^ 34) (hv : Dg v l) (hl : l ≤ 34) : fX6_rest N (lN p) (lN v) (nI l) = some (lN (pmod p v)) := by
  unfold fX6_rest
  have hN' : 2 ^ 36 ≤ N := hN
  have := sX6_rest_L (N := N) (p := p) (k := fun x => some x) hv hl (34 - l) N p (by omega) (by omega) (by rw [show l + (34 - l) = 34 by omega]; exact hp) Cg.rfl'
  rw [show l + (34 - l) = 33 + 1 by omega, nJs] at this
  exact this
theorem sX6_quotient_L {N p v l : Nat} {k : Int64 → Option Int64} (hv : Dg v l) (hl : l ≤ 34) : ∀ (i n rest t : Nat), i < n → l + i ≤ 34 → rest < 2 ^ (l + i) → p = pmul (t * 2 ^ i) v ^^^ rest → ∃ q, p = pmul q v ^^^ pmod p v ∧ fX6_quotient_L10 N (lN v) (nI l) k n (lN rest) (lN (t * 2 ^ i)) (nI (l + i) - 1) = k (lN q) := by
  intro i
  induction i with
  | zero =>
    intro n rest t hn hi hr hc
    obtain ⟨n, rfl⟩ : ∃ z, n = z + 1 := ⟨n - 1, by omega⟩
    have hcg : Cg v rest p := by
      unfold Cg
      rw [hc, Nat.xor_comm, Nat.xor_assoc, Nat.xor_self, Nat.xor_zero]
      exact (Dv.rfl' v).mull _
    refine ⟨t * 2 ^ 0, ?_, ?_⟩
    · rw [pmod_eq hv hr hcg]; exact hc
    · rw [fX6_quotient_L10_s, fX6_quotient_B10]
      rw [if_pos ((nJ_lt (by omega) (by omega)).mpr (by omega))]
  | succ i ih =>
    intro n rest t hn hi hr hc
    obtain ⟨n, rfl⟩ : ∃ z, n = z + 1 := ⟨n - 1, by omega⟩
    have hr63 : 2 ^ (l + (i + 1)) ≤ 2 ^ 63 := pow_le_of_le (by omega)
    have e2 : t * 2 ^ (i + 1) = (2 * t) * 2 ^ i := by rw [Nat.pow_succ]; rw [Nat.mul_comm (2 ^ i) 2, ← Nat.mul_assoc, Nat.mul_comm t 2]
    have e3 : t * 2 ^ (i + 1) ^^^ 2 ^ i = (2 * t + 1) * 2 ^ i := by
      rw [e2, ← pmul_pow (2 * t), ← pmul_pow (2 * t + 1), x1, pmul_xl, pmul_1l, Nat.xor_comm]
    rw [fX6_quotient_L10_s, fX6_quotient_B10]
    rw [if_neg (fun e => by have := (nJ_lt (by omega) (by omega)).mp e; omega), show l + (i + 1) = l + i + 1 by omega, nJs, nJn]
    by_cases hb : rest.testBit (l + i) = true
    · rw [if_pos ((lBitR (by omega) (by omega)).mpr hb), nSub (by omega), show l + i - l = i by omega, lSh v (by omega), lX, show (1 : Int64) = lN 1 from rfl, lSh 1 (by omega), lO, Nat.one_mul, or_xor_pow, e3]
      have h3 : 2 ^ (l + i) ≤ rest := Nat.ge_two_pow_of_testBit hb
      have h4 : Dg (v * 2 ^ i) (l + i) := by
        rw [← pmul_pow]
        exact hv.mul ⟨Nat.le_refl _, pow_lt_of_lt (by omega)⟩
      refine ih n _ (2 * t + 1) (by omega) (by omega) (xor_drop h3 (by rw [show l + i + 1 = l + (i + 1) by omega]; exact hr) h4.1 h4.2) ?_
      rw [← e3, pmul_xl, hc, pmul_comm (2 ^ i) v, pmul_pow]
      rw [Nat.xor_assoc, Nat.xor_comm rest, ← Nat.xor_assoc (v * 2 ^ i), Nat.xor_self, Nat.zero_xor]
    · rw [if_neg (fun e => hb ((lBitR (by omega) (by omega)).mp e)), e2]
      refine ih n rest (2 * t) (by omega) (by omega) ?_ ?_
      · apply Nat.lt_pow_two_of_testBit
        intro z hz
        rcases Nat.eq_or_lt_of_le hz with rfl | h
        · simpa using hb
        · exact Nat.testBit_lt_two_pow (Nat.lt_of_lt_of_le hr (pow_le_of_le (by omega)))
      · rw [hc, e2]
theorem sX6_quotient {N p v l : Nat} (hN : Big N) (hp : p < 2 ^ 34) (hv : Dg v l) (hl : l ≤ 34) : ∃ q, p = pmul q v ^^^ pmod p v ∧ fX6_quotient N (lN p) (lN v) (nI l) = some (lN q) := by
  unfold fX6_quotient
  have hN' : 2 ^ 36 ≤ N := hN
  have := sX6_quotient_L (N := N) (p := p) (k := fun x => some x) hv hl (34 - l) N p 0 (by omega) (by omega) (by rw [show l + (34 - l) = 34 by omega]; exact hp) (by rw [Nat.zero_mul, pmul_0l, Nat.zero_xor])
  rw [show l + (34 - l) = 33 + 1 by omega, nJs, Nat.zero_mul] at this
  exact this
/-- dividing by `by` as often as it goes -/
theorem sX6_know78 {N v d : Nat} {mW : Nat → Int32} {mP : Nat → Int64} {x1 : Int32} {mK : Nat → Int32} {mF : Nat → Int64} {mH mM : Nat → Int32} {mD : Nat → Int64} {k : (Nat → Int32) → (Nat → Int64) → (Nat → Int32) → (Nat → Int32) → (Nat → Int64) → Int64 → Int32 → Option ((Nat → Int32) × (Nat → Int64) × (Nat → Int32) × (Nat → Int32) × (Nat → Int64))} (hN : Big N) (hv : Dg v d) (hd1 : 1 ≤ d) (hd : d ≤ 33) : ∀ (j z g n : Nat), j < z → 0 < g → g < 2 ^ j → j ≤ 33 → n + j < 2 ^ 30 → ∃ m g', g = pmul (ppow v m) g' ∧ ¬ Dv v g' ∧ 0 < g' ∧ m ≤ j ∧ fX6_know_L78 N mW mP x1 (lN v) (nI d) k z mK mF mH mM mD (lN g) (nI n) = k mK mF mH mM mD (lN g') (nI (n + m)) := by
  intro j
  induction j with
  | zero => intro z g n _ h0 h1; simp at h1; omega
  | succ j ih =>
    intro z g n hz h0 h1 hj hn
    obtain ⟨z, rfl⟩ : ∃ y, z = y + 1 := ⟨z - 1, by omega⟩
    obtain ⟨D, hD⟩ := dg_ex h0
    have hDj := dg_lt hD h1
    have h33 : 2 ^ (j + 1) ≤ 2 ^ 33 := pow_le_of_le hj
    have hg34 : g < 2 ^ 34 := by omega
    have nodv : ¬ Dv v g → ∃ m g', g = pmul (ppow v m) g' ∧ ¬ Dv v g' ∧ 0 < g' ∧ m ≤ j + 1 ∧ k mK mF mH mM mD (lN g) (nI n) = k mK mF mH mM mD (lN g') (nI (n + m)) := fun h => ⟨0, g, (pmul_1l g).symm, h, h0, Nat.zero_le _, rfl⟩
    rw [fX6_know_L78_s, fX6_know_B78, sX6_degree hN hD hg34, Option.bind_some]
    by_cases hlt : D < d
    · rw [if_pos (nI_lt hlt (by omega))]
      refine nodv (fun h => ?_)
      have := h.le h0 hv
      have := hD.2
      have : 2 ^ (D + 1) ≤ 2 ^ d := pow_le_of_le hlt
      omega
    · rw [if_neg (fun q => hlt ((nI_ltI (by omega) (by omega)).mp q)), sX6_rest hN hg34 hv (by omega), Option.bind_some]
      have hpl := pmod_lt hv g
      have hd63 : 2 ^ d ≤ 2 ^ 33 := pow_le_of_le hd
      by_cases hr : pmod g v = 0
      · rw [hr, if_pos (show lN 0 = (0 : Int64) from rfl)]
        obtain ⟨q, e1, e2⟩ := sX6_quotient (N := N) hN hg34 hv (show d ≤ 34 by omega)
        rw [e2, Option.bind_some, nI_1]
        rw [hr, Nat.xor_zero] at e1
        have hq0 : 0 < q := by rcases Nat.eq_zero_or_pos q with rfl | y; (rw [pmul_0l] at e1; omega); exact y
        obtain ⟨Q, hQ⟩ := dg_ex hq0
        have hDQ := hQ.mul hv
        rw [← e1] at hDQ
        have := hDQ.uniq hD
        have hqj : q < 2 ^ j := Nat.lt_of_lt_of_le hQ.2 (pow_le_of_le (by omega))
        obtain ⟨m, g', f1, f2, f3, f4, f5⟩ := ih z q (n + 1) (by omega) hq0 hqj (by omega) (by omega)
        refine ⟨m + 1, g', ?_, f2, f3, by omega, ?_⟩
        · rw [e1, f1]
          show _ = pmul (pmul (ppow v m) v) g'
          rw [pmul_assoc, pmul_assoc, pmul_comm g' v]
        · rw [f5, show n + 1 + m = n + (m + 1) by omega]
      · rw [if_neg (fun q => hr ((lE0 (by omega)).mp q))]
        exact nodv (fun h => hr ((pmod_dv hv.pos).mpr h))
def Kn (p e : Nat → Nat) (a by' g G : Nat) : Prop := (∀ i, i < a → Irr (p i) ∧ 1 ≤ e i ∧ p i < by') ∧ (∀ i j, i < j → j < a → p i < p j) ∧ pmul (prE p e a) g = G
theorem kn_cap {p e : Nat → Nat} {a b g G w D : Nat} (h : Kn p e a b g G) (hb : b < 2 ^ 34) (hG : Dg G w) (hD : Dg g D) : a + D ≤ w := by
  obtain ⟨q, hq, hs⟩ := dn_sum (p := p) (e := e) (a := a) (d := 34) (R := g) ⟨fun i hi => ⟨(h.1 i hi).1, (h.1 i hi).2.1, Nat.lt_trans (h.1 i hi).2.2 hb⟩, h.2.1, h.2.2⟩ hG hD
  have : sm (fun _ => 1) a ≤ sm q a := sm_le a (fun j hj => (h.1 j hj).1.dgpos (hq j hj))
  rw [sm_c] at this; omega
theorem kn_push {p e : Nat → Nat} {a b g G v m g' : Nat} (h : Kn p e a b g G) (hbv : b ≤ v) (hv : Irr v) (hm : 1 ≤ m) (hg : g = pmul (ppow v m) g') : Kn (fu p a v) (fu e a m) (a + 1) (v + 2) g' G := by
  refine ⟨fun i hi => ?_, fun i j hij hj => ?_, ?_⟩
  · by_cases q : i = a
    · rw [q, fu_s, fu_s]; exact ⟨hv, hm, by omega⟩
    · rw [fu_n q, fu_n q]
      have := h.1 i (by omega)
      exact ⟨this.1, this.2.1, by omega⟩
  · by_cases q : j = a
    · rw [q, fu_s, fu_n (by omega)]
      have := (h.1 i (by omega)).2.2; omega
    · rw [fu_n q, fu_n (by omega)]; exact h.2.1 i j hij (by omega)
  · have := prE_app (p := p) (e := e) (p2 := fu p a v) (e2 := fu e a m) (a := a) (n := 1) (fun j hj => ⟨fu_n (by omega), fu_n (by omega)⟩) 1 (Nat.le_refl _)
    rw [this, ← h.2.2, pmul_assoc, hg]
    congr 1
    show pmul (pmul 1 (ppow (fu p a v (a + 0)) (fu e a m (a + 0)))) g' = _
    rw [Nat.add_zero, fu_s, fu_s, pmul_1l]
/-- the reference's rows of form f hold the factors -/
def MF (f : Nat) (mF : Nat → Int64) (mH : Nat → Int32) (p e : Nat → Nat) (n : Nat) : Prop := ∀ i, i < n → mF (33 * f + i) = lN (p i) ∧ mH (33 * f + i) = nI (e i)
def MO (f : Nat) (mF mF' : Nat → Int64) (mH mH' mM mM' : Nat → Int32) : Prop := (∀ x, (x < 33 * f ∨ 33 * f + 33 ≤ x) → mF' x = mF x ∧ mH' x = mH x) ∧ ∀ x, x ≠ f → mM' x = mM x
theorem MO.rfl' {f : Nat} {mF : Nat → Int64} {mH mM : Nat → Int32} : MO f mF mF mH mH mM mM := ⟨fun _ _ => ⟨rfl, rfl⟩, fun _ _ => rfl⟩
theorem MO.trans {f : Nat} {a b c : Nat → Int64} {a' b' c' a2 b2 c2 : Nat → Int32} (h : MO f a b a' b' a2 b2) (h2 : MO f b c b' c' b2 c2) : MO f a c a' c' a2 c2 := ⟨fun x hx => ⟨(h2.1 x hx).1.trans (h.1 x hx).1, (h2.1 x hx).2.trans (h.1 x hx).2⟩, fun x hx => (h2.2 x hx).trans (h.2 x hx)⟩
theorem know_put {N f a v m : Nat} {mW : Nat → Int32} {mP : Nat → Int64} {mK : Nat → Int32} {mF : Nat → Int64} {mH mM : Nat → Int32} {mD : Nat → Int64} {g by' : Int64} {d : Int32} {p e : Nat → Nat} (self : (Nat → Int32) → (Nat → Int64) → (Nat → Int32) → (Nat → Int32) → (Nat → Int64) → Int64 → Int64 → Int32 → Option ((Nat → Int32) × (Nat → Int64) × (Nat → Int32) × (Nat → Int32) × (Nat → Int64))) (hf : f < 8) (ha : a < 33) (hm : 1 ≤ m) (hm2 : m < 2 ^ 31) (hM : mM f = nI a) (hF : MF f mF mH p e a) : ∃ mF' mH' mM', MF f mF' mH' (fu p a v) (fu e a m) (a + 1) ∧ mM' f = nI (a + 1) ∧ MO f mF mF' mH mH' mM mM' ∧ (if nI m ≤ 0 then (fX6_know_J166 N mW mP (nI f) self mK mF mH mM mD g by' d) else (if OOB (nI f) 8 then none else (if OOB (((33 : Int32) * (nI f)) + (mM (nI f).toNatClampNeg)) 264 then none else (if OOB (nI f) 8 then none else (if OOB (((33 : Int32) * (nI f)) + (mM (nI f).toNatClampNeg)) 264 then none else (if OOB (nI f) 8 then none else (if OOB (nI f) 8 then none else (fX6_know_J166 N mW mP (nI f) self mK (vp_updL mF (((33 : Int32) * (nI f)) + (mM (nI f).toNatClampNeg)).toNatClampNeg (lN v)) (upd mH (((33 : Int32) * (nI f)) + (mM (nI f).toNatClampNeg)).toNatClampNeg (nI m)) (upd mM (nI f).toNatClampNeg ((mM (nI f).toNatClampNeg) + (1 : Int32))) mD g by' d)))))))) = fX6_know_J166 N mW mP (nI f) self mK mF' mH' mM' mD g by' d := by
  have ho : ¬ OOB (nI f) 8 := oob_nI hf (by decide)
  have hi : (33 : Int32) * nI f + nI a = nI (33 * f + a) := by rw [show (33 : Int32) = nI 33 from rfl, pk_mul, nI_add]
  have ho2 : ¬ OOB (nI (33 * f + a)) 264 := oob_nI (by omega) (by decide)
  refine ⟨vp_updL mF (33 * f + a) (lN v), upd mH (33 * f + a) (nI m), upd mM f (nI (a + 1)), ?_, pk_us, ⟨fun x hx => ⟨pk_uLn (by omega), pk_un (by omega)⟩, fun x hx => pk_un hx⟩, ?_⟩
  · intro i hi'
    by_cases q : i = a
    · rw [q, pk_uLs, pk_us, fu_s, fu_s]; exact ⟨rfl, rfl⟩
    · rw [pk_uLn (by omega), pk_un (by omega), fu_n q, fu_n q]; exact hF i (by omega)
  · rw [if_neg (nI_nle hm hm2)]
    simp only [if_neg ho, nCl (show f < 2 ^ 31 by omega), hM, hi, if_neg ho2, nCl (show 33 * f + a < 2 ^ 31 by omega), nI_1]
theorem know_on {N f b d : Nat} {mW : Nat → Int32} {mP : Nat → Int64} {mK : Nat → Int32} {mF : Nat → Int64} {mH mM : Nat → Int32} {mD : Nat → Int64} {g : Int64} (self : (Nat → Int32) → (Nat → Int64) → (Nat → Int32) → (Nat → Int32) → (Nat → Int64) → Int64 → Int64 → Int32 → Option ((Nat → Int32) × (Nat → Int64) × (Nat → Int32) × (Nat → Int32) × (Nat → Int64))) (hb : Dg b d) (hd : d ≤ 33) : ∃ d', Dg (b + 2) d' ∧ (1 ≤ d → 1 ≤ d') ∧ fX6_know_J166 N mW mP (nI f) self mK mF mH mM mD g (lN b) (nI d) = self mK mF mH mM mD g (lN (b + 2)) (nI d') := by
  have h34 : 2 ^ (d + 1) ≤ 2 ^ 34 := pow_le_of_le (by omega)
  have hb1 := hb.1
  have hb2 := hb.2
  have hdv : (b + 2) / 2 ^ (d + 1) ≤ b + 2 := Nat.div_le_self _ _
  unfold fX6_know_J166
  rw [l2, lN_add, nI_1, lSr (by omega) (by omega)]
  by_cases h : b + 2 < 2 ^ (d + 1)
  · exact ⟨d, ⟨by omega, h⟩, fun x => x, by rw [if_pos ((lE0 (by omega)).mpr (Nat.div_eq_of_lt h))]⟩
  · refine ⟨d + 1, ⟨by omega, ?_⟩, fun _ => by omega, by rw [if_neg (fun q => h ((Nat.div_eq_zero_iff_lt (Nat.two_pow_pos _)).mp ((lE0 (by omega)).mp q)))]⟩
    have : 2 ≤ 2 ^ (d + 1) := by have := Nat.two_pow_pos d; rw [Nat.pow_succ]; omega
    rw [Nat.pow_succ 2 (d + 1)]; omega
theorem kn_irr {g b d D : Nat} (hg : ∀ q, Irr q → Dv q g → b ≤ q) (hb : Dg b d) (hD : Dg g D) (h1 : 1 ≤ D) (hlt : D < 2 * d) : Irr g := by
  have hg0 := hD.pos
  have hge : 2 ≤ g := by have := hD.1; have : 2 ^ 1 ≤ 2 ^ D := pow_le_of_le h1; omega
  refine ⟨hge, fun x y hxy => ?_⟩
  apply Classical.byContradiction
  intro hn
  have hx0 : 0 < x := by rcases Nat.eq_zero_or_pos x with rfl | z; (rw [pmul_0l] at hxy; omega); exact z
  have hy0 : 0 < y := by rcases Nat.eq_zero_or_pos y with rfl | z; (rw [pmul_0] at hxy; omega); exact z
  have hx2 : 2 ≤ x := by
    rcases Nat.lt_or_ge x 2 with z | z
    · exact absurd (Or.inl (show x = 1 by omega)) hn
    · exact z
  have hy2 : 2 ≤ y := by
    rcases Nat.lt_or_ge y 2 with z | z
    · exact absurd (Or.inr (show y = 1 by omega)) hn
    · exact z
  obtain ⟨i, hi⟩ := dg_ex hx0
  obtain ⟨j, hj⟩ := dg_ex hy0
  have hsum := hi.mul hj
  rw [← hxy] at hsum
  have hij := hsum.uniq hD
  have big : ∀ z k, 2 ≤ z → Dv z g → Dg z k → d ≤ k := by
    intro z k hz hzd hk
    obtain ⟨r, hr, hrd⟩ := irr_ex z hz
    have a1 := hg r hr (hrd.trans hzd)
    have a2 : r < 2 ^ (k + 1) := dv_lt hrd (by omega) hk.2
    rcases Nat.lt_or_ge k d with y | y
    · have : 2 ^ (k + 1) ≤ 2 ^ d := pow_le_of_le y
      have := hb.1; omega
    · exact y
  have b1 := big x i hx2 ⟨y, by rw [hxy, pmul_comm]⟩ hi
  have b2 := big y j hy2 ⟨x, hxy⟩ hj
  omega
theorem sX6_know48 {N f G w : Nat} {mW : Nat → Int32} {mP : Nat → Int64} {mK : Nat → Int32} {mD : Nat → Int64} {k : (Nat → Int32) → (Nat → Int64) → (Nat → Int32) → (Nat → Int32) → (Nat → Int64) → Option ((Nat → Int32) × (Nat → Int64) × (Nat → Int32) × (Nat → Int32) × (Nat → Int64))} (hN : Big N) (hf : f < 8) (hG : Dg G w) (hw : w ≤ 32) (ho : G % 2 = 1) : ∀ (t z b d a g : Nat) (p e : Nat → Nat) (mF : Nat → Int64) (mH mM : Nat → Int32), t + 1 < z → 2 ^ 17 < b + 2 * t → b % 2 = 1 → Dg b d → 1 ≤ d → d ≤ 33 → Kn p e a b g G → (∀ q, Irr q → Dv q g → b ≤ q) → MF f mF mH p e a → mM f = nI a → ∃ p' e' n mF' mH' mM', FA p' e' n G ∧ n ≤ 32 ∧ MF f mF' mH' p' e' n ∧ mM' f = nI n ∧ MO f mF mF' mH mH' mM mM' ∧ fX6_know_L48 N mW mP (nI f) k z mK mF mH mM mD (lN g) (lN b) (nI d) = k mK mF' mH' mM' mD := by
  intro t
  have hGb := hG.2
  have hG33 : G < 2 ^ 33 := Nat.lt_of_lt_of_le hG.2 (pow_le_of_le (by omega))
  have done : ∀ (z a : Nat) (b' : Nat) (by' : Int64) (d' : Int32) (p e : Nat → Nat) (mF : Nat → Int64) (mH mM : Nat → Int32), 0 < z → b' < 2 ^ 34 → Kn p e a b' 1 G → MF f mF mH p e a → mM f = nI a → ∃ p' e' n mF' mH' mM', FA p' e' n G ∧ n ≤ 32 ∧ MF f mF' mH' p' e' n ∧ mM' f = nI n ∧ MO f mF mF' mH mH' mM mM' ∧ fX6_know_L48 N mW mP (nI f) k z mK mF mH mM mD (lN 1) by' d' = k mK mF' mH' mM' mD := by
    intro z a b' by' d' p e mF mH mM hz hb' hk hF hM
    obtain ⟨z, rfl⟩ : ∃ y, z = y + 1 := ⟨z - 1, by omega⟩
    have hD : Dg 1 0 := ⟨by decide, by decide⟩
    have hcap := kn_cap hk hb' hG hD
    refine ⟨p, e, a, mF, mH, mM, ⟨fun i hi => ⟨(hk.1 i hi).1, (hk.1 i hi).2.1⟩, hk.2.1, by have := hk.2.2; rwa [pmul_1] at this⟩, by omega, hF, hM, MO.rfl', ?_⟩
    rw [fX6_know_L48_s, fX6_know_B48, sX6_degree hN hD (by decide), Option.bind_some, if_pos (show nI 0 ≤ 0 by decide)]
  have fin : ∀ (z b d a g D : Nat) (p e : Nat → Nat) (mF : Nat → Int64) (mH mM : Nat → Int32), 0 < z → Dg b d → Dg g D → g < 2 ^ 33 → 1 ≤ D → D < 2 * d → Kn p e a b g G → (∀ q, Irr q → Dv q g → b ≤ q) → MF f mF mH p e a → mM f = nI a → ∃ p' e' n mF' mH' mM', FA p' e' n G ∧ n ≤ 32 ∧ MF f mF' mH' p' e' n ∧ mM' f = nI n ∧ MO f mF mF' mH mH' mM mM' ∧ fX6_know_J75 N mW mP (nI f) (fX6_know_L48 N mW mP (nI f) k z) mK mF mH mM mD (lN g) (lN g) (nI D) = k mK mF' mH' mM' mD := by
    intro z b d a g D p e mF mH mM hz hb hD hg hD1 hlt hk hq hF hM
    have hirr := kn_irr hq hb hD hD1 hlt
    have hbg := hq g hirr (Dv.rfl' g)
    have hD33 := dg_lt hD hg
    have hcap := kn_cap hk (by omega) hG hD
    have hN' : 2 ^ 36 ≤ N := hN
    obtain ⟨m, g', e1, e2, e3, e4, e5⟩ := sX6_know78 (N := N) (mW := mW) (mP := mP) (x1 := nI f) (mK := mK) (mF := mF) (mH := mH) (mM := mM) (mD := mD) (k := (fun mK_25 mF_26 mH_27 mM_28 mD_29 x2_30 x7_31 => (if x7_31 ≤ 0 then (fX6_know_J166 N mW mP (nI f) (fX6_know_L48 N mW mP (nI f) k z) mK_25 mF_26 mH_27 mM_28 mD_29 x2_30 (lN g) (nI D)) else (if OOB (nI f) 8 then none else (if OOB (((33 : Int32) * (nI f)) + (mM_28 (nI f).toNatClampNeg)) 264 then none else (if OOB (nI f) 8 then none else (if OOB (((33 : Int32) * (nI f)) + (mM_28 (nI f).toNatClampNeg)) 264 then none else (if OOB (nI f) 8 then none else (if OOB (nI f) 8 then none else (fX6_know_J166 N mW mP (nI f) (fX6_know_L48 N mW mP (nI f) k z) mK_25 (vp_updL mF_26 (((33 : Int32) * (nI f)) + (mM_28 (nI f).toNatClampNeg)).toNatClampNeg (lN g)) (upd mH_27 (((33 : Int32) * (nI f)) + (mM_28 (nI f).toNatClampNeg)).toNatClampNeg x7_31) (upd mM_28 (nI f).toNatClampNeg ((mM_28 (nI f).toNatClampNeg) + (1 : Int32))) mD_29 x2_30 (lN g) (nI D))))))))))) hN hD hD1 (by omega) 33 N g 0 (by omega) hD.pos hg (Nat.le_refl _) (by omega)
    have hm1 : m = 1 ∧ g' = 1 := by
      have hm0 : m ≠ 0 := by
        rintro rfl
        rw [show ppow g 0 = 1 from rfl, pmul_1l] at e1
        exact e2 (by rw [← e1]; exact Dv.rfl' g)
      obtain ⟨m, rfl⟩ : ∃ y, m = y + 1 := ⟨m - 1, by omega⟩
      have h1 : pmul 1 g = pmul (pmul (ppow g m) g') g := by
        rw [pmul_1l]
        refine e1.trans ?_
        show pmul (pmul (ppow g m) g) g' = _
        rw [pmul_assoc, pmul_assoc, pmul_comm g g']
      have h2 := pmul_canc hD.pos h1
      have h3 : Dv g' 1 := ⟨_, h2⟩
      have h4 := h3.eq1
      rw [h4, pmul_1] at h2
      cases m with
      | zero => exact ⟨rfl, h4⟩
      | succ m =>
        exfalso
        have h5 : Dv g 1 := ⟨ppow g m, h2⟩
        have h6 := h5.eq1
        have h7 := hirr.1
        omega
    obtain ⟨rfl, rfl⟩ := hm1
    have hk2 := kn_push hk hbg hirr (Nat.le_refl 1) e1
    unfold fX6_know_J75
    rw [nI_0] at e5
    rw [e5]
    obtain ⟨mF', mH', mM', r1, r2, r3, r4⟩ := know_put (N := N) (f := f) (a := a) (v := g) (m := 0 + 1) (mW := mW) (mP := mP) (mK := mK) (mF := mF) (mH := mH) (mM := mM) (mD := mD) (g := lN 1) (by' := lN g) (d := nI D) (p := p) (e := e) (fX6_know_L48 N mW mP (nI f) k z) hf (by omega) (by omega) (by omega) hM hF
    obtain ⟨d', s1, _, s3⟩ := know_on (N := N) (f := f) (b := g) (d := D) (mW := mW) (mP := mP) (mK := mK) (mF := mF') (mH := mH') (mM := mM') (mD := mD) (g := lN 1) (fX6_know_L48 N mW mP (nI f) k z) hD (by omega)
    obtain ⟨p', e', n, F', H', M', t1, t2, t3, t4, t5, t6⟩ := done z (a + 1) (g + 2) (lN (g + 2)) (nI d') _ _ mF' mH' mM' hz (by omega) hk2 r1 r2
    exact ⟨p', e', n, F', H', M', t1, t2, t3, t4, r3.trans t5, r4.trans (s3.trans t6)⟩
  induction t with
  | zero =>
    intro z b d a g p e mF mH mM hz hb ho2 hbd hd1 hd hk hq hF hM
    obtain ⟨z, rfl⟩ : ∃ y, z = y + 1 := ⟨z - 1, by omega⟩
    have hgG : Dv g G := ⟨prE p e a, hk.2.2.symm⟩
    have hg0 := hgG.pos hG.pos
    have hg33 := dv_lt hgG hG.pos hG33
    obtain ⟨D, hD⟩ := dg_ex hg0
    have hD33 := dg_lt hD hg33
    have hbl : b < 2 ^ 34 := Nat.lt_of_lt_of_le hbd.2 (pow_le_of_le (by omega))
    have hd17 : 17 ≤ d := by
      rcases Nat.lt_or_ge d 17 with y | y
      · have : 2 ^ (d + 1) ≤ 2 ^ 17 := pow_le_of_le y
        have := hbd.2; omega
      · exact y
    rcases Nat.eq_zero_or_pos D with rfl | hDp
    · have : g = 1 := by have := hD.2; simp at this; omega
      subst this
      exact done (z + 1) a b (lN b) (nI d) p e mF mH mM (by omega) hbl hk hF hM
    · rw [fX6_know_L48_s, fX6_know_B48]
      simp only [sX6_degree hN hD (show g < 2 ^ 34 by omega), Option.bind_some]
      rw [if_neg (nI_nle hDp (by omega)), show (2 : Int32) * nI d = nI (2 * d) from pk_mul 2 d, if_neg (nI_ge (by omega) (by omega))]
      exact fin z b d a g D p e mF mH mM (by omega) hbd hD hg33 hDp (by omega) hk hq hF hM
  | succ t ih =>
    intro z b d a g p e mF mH mM hz hb ho2 hbd hd1 hd hk hq hF hM
    obtain ⟨z, rfl⟩ : ∃ y, z = y + 1 := ⟨z - 1, by omega⟩
    have hgG : Dv g G := ⟨prE p e a, hk.2.2.symm⟩
    have hg0 := hgG.pos hG.pos
    have hg33 := dv_lt hgG hG.pos hG33
    obtain ⟨D, hD⟩ := dg_ex hg0
    have hD33 := dg_lt hD hg33
    have hbl : b < 2 ^ 34 := Nat.lt_of_lt_of_le hbd.2 (pow_le_of_le (by omega))
    have hN' : 2 ^ 36 ≤ N := hN
    rcases Nat.eq_zero_or_pos D with rfl | hDp
    · have : g = 1 := by have := hD.2; simp at this; omega
      subst this
      exact done (z + 1) a b (lN b) (nI d) p e mF mH mM (by omega) hbl hk hF hM
    · rw [fX6_know_L48_s, fX6_know_B48]
      simp only [sX6_degree hN hD (show g < 2 ^ 34 by omega), Option.bind_some]
      rw [if_neg (nI_nle hDp (by omega)), show (2 : Int32) * nI d = nI (2 * d) from pk_mul 2 d]
      by_cases hlt : D < 2 * d
      · rw [if_neg (nI_ge (by omega) (by omega))]
        exact fin z b d a g D p e mF mH mM (by omega) hbd hD hg33 hDp hlt hk hq hF hM
      · rw [if_pos (nI_le (by omega) (by omega))]
        have hcap := kn_cap hk hbl hG hD
        obtain ⟨m, g', e1, e2, e3, e4, e5⟩ := sX6_know78 (N := N) (mW := mW) (mP := mP) (x1 := nI f) (mK := mK) (mF := mF) (mH := mH) (mM := mM) (mD := mD) (k := (fun mK_25 mF_26 mH_27 mM_28 mD_29 x2_30 x7_31 => (if x7_31 ≤ 0 then (fX6_know_J166 N mW mP (nI f) (fX6_know_L48 N mW mP (nI f) k z) mK_25 mF_26 mH_27 mM_28 mD_29 x2_30 (lN b) (nI d)) else (if OOB (nI f) 8 then none else (if OOB (((33 : Int32) * (nI f)) + (mM_28 (nI f).toNatClampNeg)) 264 then none else (if OOB (nI f) 8 then none else (if OOB (((33 : Int32) * (nI f)) + (mM_28 (nI f).toNatClampNeg)) 264 then none else (if OOB (nI f) 8 then none else (if OOB (nI f) 8 then none else (fX6_know_J166 N mW mP (nI f) (fX6_know_L48 N mW mP (nI f) k z) mK_25 (vp_updL mF_26 (((33 : Int32) * (nI f)) + (mM_28 (nI f).toNatClampNeg)).toNatClampNeg (lN b)) (upd mH_27 (((33 : Int32) * (nI f)) + (mM_28 (nI f).toNatClampNeg)).toNatClampNeg x7_31) (upd mM_28 (nI f).toNatClampNeg ((mM_28 (nI f).toNatClampNeg) + (1 : Int32))) mD_29 x2_30 (lN b) (nI d))))))))))) hN hbd hd1 hd 33 N g 0 (by omega) hg0 hg33 (Nat.le_refl _) (by omega)
        have hg'g : Dv g' g := ⟨_, e1⟩
        have hq' : ∀ q, Irr q → Dv q g' → b + 2 ≤ q := by
          intro q hqi hqd
          have h1 := hq q hqi (hqd.trans hg'g)
          have h2 := dv_odd ho ((hqd.trans hg'g).trans hgG)
          have h3 : q ≠ b := fun h => e2 (by rw [← h]; exact hqd)
          omega
        unfold fX6_know_J75
        rw [nI_0] at e5
        rw [e5]
        rcases Nat.eq_zero_or_pos m with rfl | hm
        · rw [show ppow b 0 = 1 from rfl, pmul_1l] at e1
          subst e1
          rw [if_pos (show nI (0 + 0) ≤ 0 by decide)]
          obtain ⟨d', s1, s2, s3⟩ := know_on (N := N) (f := f) (b := b) (d := d) (mW := mW) (mP := mP) (mK := mK) (mF := mF) (mH := mH) (mM := mM) (mD := mD) (g := lN g) (fX6_know_L48 N mW mP (nI f) k z) hbd (by omega)
          rw [s3]
          refine ih z (b + 2) d' a g p e mF mH mM (by omega) (by omega) (by omega) s1 (s2 hd1) ?_ ⟨fun i hi => ⟨(hk.1 i hi).1, (hk.1 i hi).2.1, by have := (hk.1 i hi).2.2; omega⟩, hk.2.1, hk.2.2⟩ hq' hF hM
          · have hdd : d ≤ 16 := by omega
            have h17 : 2 ^ (d + 1) ≤ 2 ^ 17 := pow_le_of_le (by omega)
            have := hbd.2
            have h5 := dg_lt s1 (show b + 2 < 2 ^ 18 by omega)
            omega
        · have hirr : Irr b := by
            obtain ⟨m', rfl⟩ : ∃ y, m = y + 1 := ⟨m - 1, by omega⟩
            have hbg : Dv b g := by
              refine ⟨pmul (ppow b m') g', ?_⟩
              refine e1.trans ?_
              show pmul (pmul (ppow b m') b) g' = _
              rw [pmul_assoc, pmul_assoc, pmul_comm b g']
            have hb2 : 2 ≤ b := by have := hbd.1; have : 2 ^ 1 ≤ 2 ^ d := pow_le_of_le hd1; omega
            obtain ⟨q, hqi, hqd⟩ := irr_ex b hb2
            have h1 := hq q hqi (hqd.trans hbg)
            obtain ⟨c, hc⟩ := hqd
            have hc0 : 0 < c := by rcases Nat.eq_zero_or_pos c with rfl | y; (rw [pmul_0l] at hc; omega); exact y
            obtain ⟨C, hC⟩ := dg_ex hc0
            obtain ⟨Q, hQ⟩ := dg_ex hqi.pos
            have h2 := hC.mul hQ
            rw [← hc] at h2
            rcases Nat.eq_zero_or_pos C with rfl | y
            · have : c = 1 := by have := hC.2; simp at this; omega
              rw [this, pmul_1l] at hc
              rw [hc]; exact hqi
            · have : 2 ^ (Q + 1) ≤ 2 ^ (C + Q) := pow_le_of_le (by omega)
              have := h2.1; have := hQ.2; omega
          have hk2 := kn_push hk (Nat.le_refl b) hirr hm e1
          obtain ⟨mF', mH', mM', r1, r2, r3, r4⟩ := know_put (N := N) (f := f) (a := a) (v := b) (m := 0 + m) (mW := mW) (mP := mP) (mK := mK) (mF := mF) (mH := mH) (mM := mM) (mD := mD) (g := lN g') (by' := lN b) (d := nI d) (p := p) (e := e) (fX6_know_L48 N mW mP (nI f) k z) hf (by omega) (by omega) (by omega) hM hF
          rw [Nat.zero_add] at r1 r4 ⊢
          obtain ⟨d', s1, s2, s3⟩ := know_on (N := N) (f := f) (b := b) (d := d) (mW := mW) (mP := mP) (mK := mK) (mF := mF') (mH := mH') (mM := mM') (mD := mD) (g := lN g') (fX6_know_L48 N mW mP (nI f) k z) hbd (by omega)
          obtain ⟨p', e', n, F', H', M', t1, t2, t3, t4, t5, t6⟩ := ih z (b + 2) d' (a + 1) g' _ _ mF' mH' mM' (by omega) (by omega) (by omega) s1 (s2 hd1) (by
            have hdd : d ≤ 16 := by omega
            have h17 : 2 ^ (d + 1) ≤ 2 ^ 17 := pow_le_of_le (by omega)
            have := hbd.2
            have h5 := dg_lt s1 (show b + 2 < 2 ^ 18 by omega)
            omega) hk2 hq' r1 r2
          exact ⟨p', e', n, F', H', M', t1, t2, t3, t4, r3.trans t5, r4.trans (s3.trans t6)⟩

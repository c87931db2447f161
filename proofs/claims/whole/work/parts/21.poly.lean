/-! ===== polynomials over 0 and 1, as numbers: xor adds, pmul multiplies ===== -/
def pmulF : Nat → Nat → Nat → Nat
  | 0, _, _ => 0
  | n + 1, a, b => (if b % 2 = 1 then a else 0) ^^^ (2 * pmulF n a (b / 2))
def pmul (a b : Nat) : Nat := pmulF b a b
theorem x2 (a b : Nat) : 2 * (a ^^^ b) = (2 * a) ^^^ (2 * b) := by
  apply Nat.eq_of_testBit_eq
  intro i
  cases i with
  | zero => simp
  | succ i => simp [Nat.testBit_succ, Nat.xor_div_two]
theorem x2d (a : Nat) : (2 * a) / 2 = a := by omega
theorem pmulF_0 (n a : Nat) : pmulF n a 0 = 0 := by
  induction n with
  | zero => rfl
  | succ n ih => simp [pmulF, ih]
theorem pmulF_fuel {a : Nat} : ∀ (n m b : Nat), b ≤ n → b ≤ m → pmulF n a b = pmulF m a b := by
  intro n
  induction n with
  | zero =>
    intro m b h1 h2
    have : b = 0 := by omega
    subst this
    rw [pmulF_0, pmulF_0]
  | succ n ih =>
    intro m b h1 h2
    cases m with
    | zero =>
      have : b = 0 := by omega
      subst this
      rw [pmulF_0, pmulF_0]
    | succ m =>
      simp only [pmulF]
      rw [ih m (b / 2) (by omega) (by omega)]
theorem pmul_0 (a : Nat) : pmul a 0 = 0 := rfl
theorem pmul_rec (a b : Nat) : pmul a b = (if b % 2 = 1 then a else 0) ^^^ (2 * pmul a (b / 2)) := by
  cases b with
  | zero => simp [pmul, pmulF]
  | succ b =>
    unfold pmul
    rw [show pmulF (b + 1) a (b + 1) = (if (b + 1) % 2 = 1 then a else 0) ^^^ (2 * pmulF b a ((b + 1) / 2)) from rfl]
    rw [pmulF_fuel b ((b + 1) / 2) ((b + 1) / 2) (by omega) (Nat.le_refl _)]
theorem pmul_even (a b : Nat) : pmul a (2 * b) = 2 * pmul a b := by
  rw [pmul_rec, if_neg (by omega), Nat.zero_xor, x2d]
theorem pmul_odd (a b : Nat) : pmul a (2 * b + 1) = a ^^^ (2 * pmul a b) := by
  rw [pmul_rec, if_pos (by omega), show (2 * b + 1) / 2 = b by omega]
theorem bin_ind {P : Nat → Prop} (h0 : P 0) (he : ∀ b, P b → P (2 * b)) (ho : ∀ b, P b → P (2 * b + 1)) : ∀ b, P b := by
  intro b
  induction b using Nat.strongRecOn with
  | _ b ih =>
    rcases Nat.eq_zero_or_pos b with rfl | hb
    · exact h0
    · rcases Nat.mod_two_eq_zero_or_one b with h | h
      · have : b = 2 * (b / 2) := by omega
        rw [this]; exact he _ (ih _ (by omega))
      · have : b = 2 * (b / 2) + 1 := by omega
        rw [this]; exact ho _ (ih _ (by omega))
theorem pmul_1 (a : Nat) : pmul a 1 = a := by
  have := pmul_odd a 0
  simpa [pmul_0] using this
theorem pmul_0l (b : Nat) : pmul 0 b = 0 := by
  refine bin_ind (P := fun b => pmul 0 b = 0) rfl ?_ ?_ b
  · intro b h; rw [pmul_even, h]
  · intro b h; rw [pmul_odd, h]; rfl
theorem xswap (a b c d : Nat) : (a ^^^ b) ^^^ (c ^^^ d) = (a ^^^ c) ^^^ (b ^^^ d) := by ac_rfl
theorem pmul_xl (a a' b : Nat) : pmul (a ^^^ a') b = pmul a b ^^^ pmul a' b := by
  refine bin_ind (P := fun b => pmul (a ^^^ a') b = pmul a b ^^^ pmul a' b) (by rw [pmul_0, pmul_0, pmul_0]; rfl) ?_ ?_ b
  · intro b h; rw [pmul_even, pmul_even, pmul_even, h, x2]
  · intro b h; rw [pmul_odd, pmul_odd, pmul_odd, h, x2, xswap]
theorem pmul_2l (a b : Nat) : pmul (2 * a) b = 2 * pmul a b := by
  refine bin_ind (P := fun b => pmul (2 * a) b = 2 * pmul a b) rfl ?_ ?_ b
  · intro b h; rw [pmul_even, pmul_even, h]
  · intro b h; rw [pmul_odd, pmul_odd, h, x2]
theorem pmul_1l (b : Nat) : pmul 1 b = b := by
  refine bin_ind (P := fun b => pmul 1 b = b) rfl ?_ ?_ b
  · intro b h; rw [pmul_even, h]
  · intro b h
    rw [pmul_odd, h]
    apply Nat.eq_of_testBit_eq
    intro i
    cases i with
    | zero => simp
    | succ i =>
      rw [Nat.testBit_xor, Nat.testBit_succ, Nat.testBit_succ, Nat.testBit_succ, show (2 * b + 1) / 2 = b by omega, x2d]
      simp
theorem x1 (b : Nat) : 2 * b + 1 = 1 ^^^ (2 * b) := by
  have := pmul_odd 1 b
  rw [pmul_1l, pmul_1l] at this
  exact this
theorem pmul_comm (a b : Nat) : pmul a b = pmul b a := by
  refine bin_ind (P := fun b => pmul a b = pmul b a) ?_ ?_ ?_ b
  · rw [pmul_0, pmul_0l]
  · intro b h; rw [pmul_even, pmul_2l, h]
  · intro b h; rw [pmul_odd, x1, pmul_xl, pmul_1l, pmul_2l, h]
theorem pmul_xr (a b b' : Nat) : pmul a (b ^^^ b') = pmul a b ^^^ pmul a b' := by
  rw [pmul_comm, pmul_xl, pmul_comm b, pmul_comm b']
theorem pmul_assoc (a b c : Nat) : pmul (pmul a b) c = pmul a (pmul b c) := by
  refine bin_ind (P := fun c => pmul (pmul a b) c = pmul a (pmul b c)) ?_ ?_ ?_ c
  · rw [pmul_0, pmul_0, pmul_0]
  · intro c h; rw [pmul_even, pmul_even, pmul_even, h]
  · intro c h; rw [pmul_odd, pmul_odd, pmul_xr, pmul_even, h]
theorem pmul_lc (a b c : Nat) : pmul a (pmul b c) = pmul b (pmul a c) := by
  rw [← pmul_assoc, pmul_comm a b, pmul_assoc]
theorem pmul_2r (a : Nat) : pmul a 2 = 2 * a := by
  have := pmul_even a 1
  rw [pmul_1] at this
  exact this
theorem pmul_pow (a k : Nat) : pmul a (2 ^ k) = a * 2 ^ k := by
  induction k with
  | zero => rw [Nat.pow_zero, pmul_1]; omega
  | succ k ih => rw [Nat.pow_succ, Nat.mul_comm (2 ^ k) 2, pmul_even, ih]; rw [Nat.mul_left_comm]
theorem pmul_sq (a b : Nat) : pmul (a ^^^ b) (a ^^^ b) = pmul a a ^^^ pmul b b := by
  rw [pmul_xl, pmul_xr, pmul_xr, pmul_comm b a, Nat.xor_assoc, ← Nat.xor_assoc (pmul a b), Nat.xor_self, Nat.zero_xor]
/-- degrees -/
theorem two_lt {a k : Nat} (h : a < 2 ^ k) : 2 * a < 2 ^ (k + 1) := by rw [Nat.pow_succ]; omega
theorem two_le {a k : Nat} (h : 2 ^ k ≤ a) : 2 ^ (k + 1) ≤ 2 * a := by rw [Nat.pow_succ]; omega
theorem xor_ge {a b k : Nat} (ha : 2 ^ k ≤ a) (ha2 : a < 2 ^ (k + 1)) (hb : b < 2 ^ k) : 2 ^ k ≤ a ^^^ b ∧ a ^^^ b < 2 ^ (k + 1) := by
  refine ⟨?_, Nat.xor_lt_two_pow ha2 (by rw [Nat.pow_succ]; omega)⟩
  apply Nat.ge_two_pow_of_testBit
  rw [Nat.testBit_xor, Nat.testBit_lt_two_pow hb, Nat.testBit_of_two_pow_le_and_two_pow_add_one_gt ha ha2]
  rfl
theorem xor_drop {a b k : Nat} (ha : 2 ^ k ≤ a) (ha2 : a < 2 ^ (k + 1)) (hb : 2 ^ k ≤ b) (hb2 : b < 2 ^ (k + 1)) : a ^^^ b < 2 ^ k := by
  apply Nat.lt_pow_two_of_testBit
  intro i hi
  rw [Nat.testBit_xor]
  rcases Nat.eq_or_lt_of_le hi with rfl | h
  · rw [Nat.testBit_of_two_pow_le_and_two_pow_add_one_gt ha ha2, Nat.testBit_of_two_pow_le_and_two_pow_add_one_gt hb hb2]; rfl
  · have : 2 ^ (k + 1) ≤ 2 ^ i := pow_le_of_le h
    rw [Nat.testBit_lt_two_pow (show a < 2 ^ i by omega), Nat.testBit_lt_two_pow (show b < 2 ^ i by omega)]; rfl
/-- Dg a k: a has degree k -/
def Dg (a k : Nat) : Prop := 2 ^ k ≤ a ∧ a < 2 ^ (k + 1)
theorem Dg.pos {a k : Nat} (h : Dg a k) : 0 < a := Nat.lt_of_lt_of_le (Nat.two_pow_pos k) h.1
theorem dg_ex {a : Nat} (h : 0 < a) : ∃ k, Dg a k := ⟨a.log2, (Nat.le_log2 (by omega)).mp (Nat.le_refl _), (Nat.log2_lt (by omega)).mp (Nat.lt_succ_self _)⟩
theorem Dg.uniq {a k j : Nat} (h : Dg a k) (h2 : Dg a j) : k = j := by
  rcases Nat.lt_trichotomy k j with q | q | q
  · have : 2 ^ (k + 1) ≤ 2 ^ j := pow_le_of_le q
    have := h.2; have := h2.1; omega
  · exact q
  · have : 2 ^ (j + 1) ≤ 2 ^ k := pow_le_of_le q
    have := h2.2; have := h.1; omega
theorem Dg.mul {a b i j : Nat} (ha : Dg a i) : Dg b j → Dg (pmul a b) (i + j) := by
  refine bin_ind (P := fun b => ∀ j, Dg b j → Dg (pmul a b) (i + j)) ?_ ?_ ?_ b j
  · intro j h; have := h.pos; omega
  · intro b ih j h
    cases j with
    | zero => have := h.1; have := h.2; simp at *; omega
    | succ j =>
      have hb : Dg b j := ⟨by have := h.1; rw [Nat.pow_succ] at this; omega, by have := h.2; rw [Nat.pow_succ] at this; omega⟩
      have := ih j hb
      rw [pmul_even]
      exact ⟨two_le this.1, two_lt this.2⟩
  · intro b ih j h
    cases j with
    | zero =>
      have h2 := h.2
      have : b = 0 := by simp at h2; omega
      subst this
      rw [pmul_odd, pmul_0]; simpa using ha
    | succ j =>
      have hb : Dg b j := ⟨by have := h.1; rw [Nat.pow_succ] at this; omega, by have := h.2; rw [Nat.pow_succ] at this; omega⟩
      have h1 := ih j hb
      rw [pmul_odd, Nat.xor_comm]
      have h3 : 2 ^ (i + 1) ≤ 2 ^ (i + j + 1) := pow_le_of_le (by omega)
      exact xor_ge (two_le h1.1) (two_lt h1.2) (Nat.lt_of_lt_of_le ha.2 h3)
theorem pmul_pos {a b : Nat} (ha : 0 < a) (hb : 0 < b) : 0 < pmul a b := by
  obtain ⟨i, hi⟩ := dg_ex ha
  obtain ⟨j, hj⟩ := dg_ex hb
  exact (hi.mul hj).pos
theorem pmul_eq0 {a b : Nat} (h : pmul a b = 0) : a = 0 ∨ b = 0 := by
  rcases Nat.eq_zero_or_pos a with h1 | h1
  · exact Or.inl h1
  · rcases Nat.eq_zero_or_pos b with h2 | h2
    · exact Or.inr h2
    · have := pmul_pos h1 h2; omega
theorem xor_eq0 {a b : Nat} (h : a ^^^ b = 0) : a = b := by
  have : (a ^^^ b) ^^^ b = b := by rw [h, Nat.zero_xor]
  rw [Nat.xor_assoc, Nat.xor_self, Nat.xor_zero] at this
  exact this
theorem xor_mv {a b c : Nat} (h : a ^^^ b = c) : a = c ^^^ b := by
  rw [← h, Nat.xor_assoc, Nat.xor_self, Nat.xor_zero]
theorem pmul_canc {a b c : Nat} (hc : 0 < c) (h : pmul a c = pmul b c) : a = b := by
  have : pmul (a ^^^ b) c = 0 := by rw [pmul_xl, h, Nat.xor_self]
  rcases pmul_eq0 this with h1 | h1
  · exact xor_eq0 h1
  · omega
/-- m divides a -/
def Dv (m a : Nat) : Prop := ∃ q, a = pmul q m
theorem Dv.zero (m : Nat) : Dv m 0 := ⟨0, (pmul_0l m).symm⟩
theorem Dv.rfl' (m : Nat) : Dv m m := ⟨1, (pmul_1l m).symm⟩
theorem Dv.one (a : Nat) : Dv 1 a := ⟨a, (pmul_1 a).symm⟩
theorem Dv.xor {m a b : Nat} (h1 : Dv m a) (h2 : Dv m b) : Dv m (a ^^^ b) := by
  obtain ⟨q, rfl⟩ := h1; obtain ⟨r, rfl⟩ := h2
  exact ⟨q ^^^ r, (pmul_xl _ _ _).symm⟩
theorem Dv.mull {m a : Nat} (b : Nat) (h : Dv m a) : Dv m (pmul b a) := by
  obtain ⟨q, rfl⟩ := h
  exact ⟨pmul b q, (pmul_assoc _ _ _).symm⟩
theorem Dv.mulr {m a : Nat} (b : Nat) (h : Dv m a) : Dv m (pmul a b) := by rw [pmul_comm]; exact h.mull b
theorem Dv.trans {a b c : Nat} (h1 : Dv a b) (h2 : Dv b c) : Dv a c := by
  obtain ⟨q, rfl⟩ := h2; exact h1.mull q
theorem Dv.xorr {m a b : Nat} (h1 : Dv m (a ^^^ b)) (h2 : Dv m b) : Dv m a := by
  have := h1.xor h2
  rwa [Nat.xor_assoc, Nat.xor_self, Nat.xor_zero] at this
theorem Dv.le {m a : Nat} (h : Dv m a) (ha : 0 < a) {k : Nat} (hm : Dg m k) : 2 ^ k ≤ a := by
  obtain ⟨q, rfl⟩ := h
  rcases Nat.eq_zero_or_pos q with rfl | hq
  · rw [pmul_0l] at ha; omega
  · obtain ⟨j, hj⟩ := dg_ex hq
    exact Nat.le_trans (pow_le_of_le (by omega)) (hj.mul hm).1
theorem Dv.small {m a k : Nat} (h : Dv m a) (hm : Dg m k) (ha : a < 2 ^ k) : a = 0 := by
  rcases Nat.eq_zero_or_pos a with h1 | h1
  · exact h1
  · have := h.le h1 hm; omega
theorem Dv.antisymm {a b : Nat} (h1 : Dv a b) (h2 : Dv b a) : a = b := by
  rcases Nat.eq_zero_or_pos a with rfl | ha
  · obtain ⟨q, rfl⟩ := h1; exact (pmul_0 q).symm
  · obtain ⟨q, rfl⟩ := h1
    obtain ⟨r, hr⟩ := h2
    rw [← pmul_assoc] at hr
    have h3 : pmul r q = 1 := (pmul_canc ha (by rw [pmul_1l]; exact hr)).symm
    have hq : 0 < q := by
      rcases Nat.eq_zero_or_pos q with rfl | h
      · rw [pmul_0] at h3; omega
      · exact h
    have hr' : 0 < r := by
      rcases Nat.eq_zero_or_pos r with rfl | h
      · rw [pmul_0l] at h3; omega
      · exact h
    obtain ⟨i, hi⟩ := dg_ex hr'
    obtain ⟨j, hj⟩ := dg_ex hq
    have h4 := hi.mul hj
    rw [h3] at h4
    have h5 : i + j = 0 := by
      have := h4.1
      rcases Nat.eq_zero_or_pos (i + j) with h | h
      · exact h
      · have : 2 ^ 1 ≤ 2 ^ (i + j) := pow_le_of_le h
        omega
    have : j = 0 := by omega
    subst this
    have h6 : q = 1 := by have := hj.1; have := hj.2; simp at *; omega
    rw [h6, pmul_1l]
/-- congruence -/
def Cg (m a b : Nat) : Prop := Dv m (a ^^^ b)
theorem Cg.rfl' {m a : Nat} : Cg m a a := by unfold Cg; rw [Nat.xor_self]; exact Dv.zero m
theorem Cg.of_eq {m a b : Nat} (h : a = b) : Cg m a b := by rw [h]; exact Cg.rfl'
theorem Cg.symm {m a b : Nat} (h : Cg m a b) : Cg m b a := by unfold Cg at *; rw [Nat.xor_comm]; exact h
theorem Cg.trans {m a b c : Nat} (h1 : Cg m a b) (h2 : Cg m b c) : Cg m a c := by
  have := Dv.xor h1 h2
  rwa [Nat.xor_assoc, ← Nat.xor_assoc b, Nat.xor_self, Nat.zero_xor] at this
theorem Cg.xor {m a b c d : Nat} (h1 : Cg m a b) (h2 : Cg m c d) : Cg m (a ^^^ c) (b ^^^ d) := by
  have := Dv.xor h1 h2
  rwa [xswap] at this
theorem Cg.mul {m a b c d : Nat} (h1 : Cg m a b) (h2 : Cg m c d) : Cg m (pmul a c) (pmul b d) := by
  have e1 : Cg m (pmul a c) (pmul b c) := by unfold Cg; rw [← pmul_xl]; exact Dv.mulr c h1
  have e2 : Cg m (pmul b c) (pmul b d) := by unfold Cg; rw [← pmul_xr]; exact Dv.mull b h2
  exact e1.trans e2
theorem Cg.dv {m a b : Nat} (h : Cg m a b) (hb : Dv m b) : Dv m a := Dv.xorr h hb
theorem cg_0 {m a : Nat} : Cg m a 0 ↔ Dv m a := by unfold Cg; rw [Nat.xor_zero]
theorem Cg.uniq {m a b k : Nat} (h : Cg m a b) (hm : Dg m k) (ha : a < 2 ^ k) (hb : b < 2 ^ k) : a = b := xor_eq0 (Dv.small h hm (Nat.xor_lt_two_pow ha hb))
theorem Cg.low {m n a b : Nat} (h : Cg m a b) (hd : Dv n m) : Cg n a b := hd.trans h
/-- division -/
theorem div_ex {m k : Nat} (hm : Dg m k) : ∀ a, ∃ q r, a = pmul q m ^^^ r ∧ r < 2 ^ k := by
  intro a
  induction a using Nat.strongRecOn with
  | _ a ih =>
    rcases Nat.lt_or_ge a (2 ^ k) with h | h
    · exact ⟨0, a, by rw [pmul_0l, Nat.zero_xor], h⟩
    · obtain ⟨j, hj⟩ := dg_ex (Nat.lt_of_lt_of_le (Nat.two_pow_pos k) h)
      have hkj : k ≤ j := by
        rcases Nat.lt_or_ge j k with q | q
        · have : 2 ^ (j + 1) ≤ 2 ^ k := pow_le_of_le q
          have := hj.2; omega
        · exact q
      have h2 : Dg (pmul (2 ^ (j - k)) m) j := by
        have : Dg (2 ^ (j - k)) (j - k) := ⟨Nat.le_refl _, pow_lt_of_lt (by omega)⟩
        have := this.mul hm
        rwa [show j - k + k = j by omega] at this
      have h3 : a ^^^ pmul (2 ^ (j - k)) m < 2 ^ j := xor_drop hj.1 hj.2 h2.1 h2.2
      obtain ⟨q, r, e, hr⟩ := ih _ (Nat.lt_of_lt_of_le h3 hj.1)
      refine ⟨q ^^^ 2 ^ (j - k), r, ?_, hr⟩
      have := xor_mv e
      rw [this, pmul_xl]
      ac_rfl

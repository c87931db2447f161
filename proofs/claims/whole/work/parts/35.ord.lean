/-! ===== orders ===== -/
def Eo (G m : Nat) : Prop := Cg G (ppow 2 m) 1
theorem Eo.mul {G m : Nat} (h : Eo G m) (k : Nat) : Eo G (m * k) := by
  unfold Eo; rw [ppow_mul]
  have := h.pow k
  rwa [ppow_one] at this
theorem Eo.dvd {G m n : Nat} (h : Eo G m) (hd : m ∣ n) : Eo G n := by
  obtain ⟨k, rfl⟩ := hd; exact h.mul k
theorem Eo.sub {G m r : Nat} (h : Eo G m) (h2 : Eo G (m + r)) : Eo G r := by
  unfold Eo at *
  rw [ppow_add] at h2
  have h3 := h.mul (Cg.rfl' (m := G) (a := ppow 2 r))
  rw [pmul_1l] at h3
  exact h3.symm.trans h2
theorem Eo.low {G P m : Nat} (h : Eo G m) (hd : Dv P G) : Eo P m := Cg.low h hd
def Od (G o : Nat) : Prop := 1 ≤ o ∧ Eo G o ∧ ∀ m, 1 ≤ m → Eo G m → o ≤ m
theorem Od.dvd {G o m : Nat} (h : Od G o) (hm : Eo G m) : o ∣ m := by
  have h1 : Eo G (m % o) := by
    refine (h.2.1.mul (m / o)).sub ?_
    rw [Nat.div_add_mod]; exact hm
  rcases Nat.eq_zero_or_pos (m % o) with z | z
  · exact Nat.dvd_of_mod_eq_zero z
  · have := h.2.2 _ z h1
    have := Nat.mod_lt m h.1
    omega
theorem Od.uniq {G o o' : Nat} (h : Od G o) (h' : Od G o') : o = o' := Nat.le_antisymm (h.2.2 _ h'.1 h'.2.1) (h'.2.2 _ h.1 h.2.1)
theorem od_ex {G m : Nat} (h1 : 1 ≤ m) (h : Eo G m) : ∃ o, Od G o := by
  obtain ⟨k, hk, hk2⟩ := pk_least (fun m => 1 ≤ m ∧ Eo G m) ⟨m, h1, h⟩
  refine ⟨k, hk.1, hk.2, fun j hj1 hj2 => ?_⟩
  rcases Nat.lt_or_ge j k with z | z
  · exact absurd ⟨hj1, hj2⟩ (hk2 j z)
  · exact z
/-! primes -/
def Pm (p : Nat) : Prop := 2 ≤ p ∧ ∀ a, a ∣ p → a = 1 ∨ a = p
theorem Pm.euclid {p a b : Nat} (h : Pm p) (hd : p ∣ a * b) : p ∣ a ∨ p ∣ b := by
  rcases h.2 (Nat.gcd p a) (Nat.gcd_dvd_left p a) with z | z
  · exact Or.inr (Nat.Coprime.dvd_of_dvd_mul_left z hd)
  · exact Or.inl (by rw [← z]; exact Nat.gcd_dvd_right p a)
theorem pm_ex (n : Nat) (h : 2 ≤ n) : ∃ p, Pm p ∧ p ∣ n := by
  obtain ⟨k, hk, hk2⟩ := pk_least (fun m => 2 ≤ m ∧ m ∣ n) ⟨n, h, Nat.dvd_refl n⟩
  refine ⟨k, ⟨hk.1, fun a ha => ?_⟩, hk.2⟩
  have hpos : 0 < k := by omega
  have hle := Nat.le_of_dvd hpos ha
  have ha0 : 0 < a := Nat.pos_of_dvd_of_pos ha hpos
  rcases Nat.lt_or_ge a 2 with z | z
  · exact Or.inl (by omega)
  · rcases Nat.lt_or_ge a k with y | y
    · exact absurd ⟨z, Nat.dvd_trans ha hk.2⟩ (hk2 a y)
    · exact Or.inr (by omega)
def nd (q : Nat) : Nat → Nat → Bool
  | 0, a => Nat.ble a 1 || Nat.ble q a || !(Nat.beq (q % a) 0)
  | k + 1, a => nd q k (2 * a) && nd q k (2 * a + 1)
theorem nd_spec {q : Nat} : ∀ (k a r : Nat), nd q k a = true → r < 2 ^ k → 2 ≤ a * 2 ^ k + r → a * 2 ^ k + r < q → ¬ (a * 2 ^ k + r) ∣ q
  | 0, a, r, h, hr, h2, h3 => by
    have : r = 0 := by simpa using hr
    subst this
    simp only [Nat.pow_zero, Nat.mul_one, Nat.add_zero] at h2 h3 ⊢
    intro hd
    have hz := Nat.mod_eq_zero_of_dvd hd
    simp only [nd, Bool.or_eq_true, Bool.not_eq_true', hz] at h
    rcases h with (h | h) | h
    · have := Nat.le_of_ble_eq_true h; omega
    · have := Nat.le_of_ble_eq_true h; omega
    · simp at h
  | k + 1, a, r, h, hr, h2, h3 => by
    simp only [nd, Bool.and_eq_true] at h
    have e : a * 2 ^ (k + 1) = (2 * a) * 2 ^ k := by rw [Nat.pow_succ, Nat.mul_comm (2 ^ k) 2, ← Nat.mul_assoc, Nat.mul_comm a 2]
    have e2 : (2 * a + 1) * 2 ^ k = (2 * a) * 2 ^ k + 2 ^ k := by rw [Nat.add_mul, Nat.one_mul]
    rw [Nat.pow_succ] at hr
    rw [e] at h2 h3 ⊢
    rcases Nat.lt_or_ge r (2 ^ k) with z | z
    · exact nd_spec k (2 * a) r h.1 z h2 h3
    · have := nd_spec k (2 * a + 1) (r - 2 ^ k) h.2 (by omega) (by omega) (by omega)
      rwa [show (2 * a + 1) * 2 ^ k + (r - 2 ^ k) = 2 * a * 2 ^ k + r by omega] at this
theorem nd_pm {q k : Nat} (h2 : 2 ≤ q) (hq : q < 2 ^ k * 2 ^ k) (h : nd q k 0 = true) : Pm q := by
  refine ⟨h2, fun a ha => ?_⟩
  obtain ⟨b, hb⟩ := ha
  have key : ∀ x y, q = x * y → x < 2 ^ k → x = 1 ∨ x = q := by
    intro x y hxy hx
    have hx0 : 0 < x := by rcases Nat.eq_zero_or_pos x with z | z; (rw [z, Nat.zero_mul] at hxy; omega); exact z
    have hle : x ≤ q := Nat.le_of_dvd (by omega) ⟨y, hxy⟩
    rcases Nat.lt_or_ge x 2 with z | z
    · exact Or.inl (by omega)
    · rcases Nat.lt_or_ge x q with w | w
      · have := nd_spec k 0 x h hx (by omega) (by omega)
        rw [Nat.zero_mul, Nat.zero_add] at this
        exact absurd ⟨y, hxy⟩ this
      · exact Or.inr (by omega)
  rcases Nat.lt_or_ge a (2 ^ k) with z | z
  · exact key a b hb z
  · have hb2 : b < 2 ^ k := by
      rcases Nat.lt_or_ge b (2 ^ k) with w | w
      · exact w
      · have := Nat.mul_le_mul z w; omega
    rcases key b a (by rw [hb, Nat.mul_comm]) hb2 with w | w
    · right; rw [w, Nat.mul_one] at hb; exact hb.symm
    · left
      have hq0 : 0 < q := by omega
      rw [w] at hb
      have : 1 * q = a * q := by rw [Nat.one_mul]; exact hb
      exact (Nat.eq_of_mul_eq_mul_right hq0 this).symm
def prL : List Nat := [3, 5, 7, 11, 13, 17, 19, 23, 29, 31, 41, 43, 47, 73, 89, 113, 127, 151, 233, 241, 257, 331, 337, 601, 683, 1103, 1801, 2089, 2731, 8191, 65537, 131071, 178481, 262657, 524287, 2147483647]
def prS : List Nat := [3, 5, 7, 11, 13, 17, 19, 23, 29, 31, 41, 43, 47, 73, 89, 113, 127, 151, 233, 241, 257, 331, 337, 601, 683, 1103, 1801, 2089, 2731, 8191, 65537, 131071, 178481, 262657, 524287]
def prF : List (List Nat) := [[], [], [3], [7], [3, 5], [31], [3, 3, 7], [127], [3, 5, 17], [7, 73], [3, 11, 31], [23, 89], [3, 3, 5, 7, 13], [8191], [3, 43, 127], [7, 31, 151], [3, 5, 17, 257], [131071], [3, 3, 3, 7, 19, 73], [524287], [3, 5, 5, 11, 31, 41], [7, 7, 127, 337], [3, 23, 89, 683], [47, 178481], [3, 3, 5, 7, 13, 17, 241], [31, 601, 1801], [3, 2731, 8191], [7, 73, 262657], [3, 5, 29, 43, 113, 127], [233, 1103, 2089], [3, 3, 7, 11, 31, 151, 331], [2147483647], [3, 5, 17, 257, 65537]]
theorem prS_ok : ∀ q ∈ prS, 2 ≤ q ∧ q < 2 ^ 10 * 2 ^ 10 ∧ nd q 10 0 = true := by decide +kernel
theorem prB_ok : nd 2147483647 16 0 = true := by decide +kernel
theorem prL_pm (q : Nat) (h : q ∈ prL) : Pm q := by
  have hm : q ∈ prS ∨ q = 2147483647 := by
    simp only [prL, prS, List.mem_cons, List.not_mem_nil, or_false] at h ⊢
    omega
  rcases hm with z | rfl
  · obtain ⟨a, b, c⟩ := prS_ok q z
    exact nd_pm a b c
  · exact nd_pm (k := 16) (by decide) (by decide) prB_ok
def lmul (l : List Nat) : Nat := l.foldr (· * ·) 1
theorem prF_ok : ∀ d, d < 33 → 1 ≤ d → lmul (prF.getD d []) = 2 ^ d - 1 ∧ ∀ q ∈ prF.getD d [], q ∈ prL := by decide +kernel
theorem pm_lmul {p : Nat} (h : Pm p) : ∀ l : List Nat, p ∣ lmul l → ∃ q ∈ l, p ∣ q
  | [], hd => by
    have := Nat.le_of_dvd (by decide) (show p ∣ 1 from hd)
    have := h.1; omega
  | x :: l, hd => by
    rcases h.euclid (show p ∣ x * lmul l from hd) with z | z
    · exact ⟨x, List.mem_cons_self, z⟩
    · obtain ⟨q, hq, hq2⟩ := pm_lmul h l z
      exact ⟨q, List.mem_cons_of_mem _ hq, hq2⟩
theorem pm_in {p d : Nat} (h : Pm p) (hd1 : 1 ≤ d) (hd : d ≤ 32) (hp : p ∣ 2 ^ d - 1) : p ∈ prL := by
  obtain ⟨e1, e2⟩ := prF_ok d (by omega) hd1
  rw [← e1] at hp
  obtain ⟨q, hq, hq2⟩ := pm_lmul h _ hp
  rcases (prL_pm q (e2 q hq)).2 p hq2 with z | z
  · have := h.1; omega
  · rw [z]; exact e2 q hq
theorem kPR_nat : ∀ k, k < 36 → kPR k = nI (prL.getD k 0) ∧ 2 ≤ prL.getD k 0 ∧ prL.getD k 0 < 2 ^ 31 := by decide +kernel
theorem prL_at (q : Nat) (h : q ∈ prL) : ∃ k, k < 36 ∧ prL.getD k 0 = q := by
  obtain ⟨k, hk, e⟩ := List.getElem_of_mem h
  have h36 : prL.length = 36 := by decide +kernel
  exact ⟨k, by omega, by rw [← e, List.getD_eq_getElem?_getD, List.getElem?_eq_getElem hk]; rfl⟩
/-! the order of a product of powers -/
theorem dv_powc {P B : Nat} (hP : Irr P) (hB : ¬ Dv P B) : ∀ (e c : Nat), Dv (ppow P e) (pmul c B) → Dv (ppow P e) c
  | 0, c, _ => Dv.one c
  | e + 1, c, h => by
    obtain ⟨q, hq⟩ := h
    have hq' : pmul c B = pmul (pmul q (ppow P e)) P := by rw [hq]; show pmul q (pmul (ppow P e) P) = _; rw [pmul_assoc]
    have h1 : Dv P (pmul c B) := ⟨_, hq'⟩
    rcases hP.prime h1 with z | z
    · obtain ⟨c', hc⟩ := z
      have h2 : pmul (pmul c' B) P = pmul (pmul q (ppow P e)) P := by rw [← hq', hc, pmul_assoc, pmul_assoc, pmul_comm B P]
      have h3 := pmul_canc hP.pos h2
      obtain ⟨u, hu⟩ := dv_powc hP hB e c' ⟨q, h3⟩
      exact ⟨u, by rw [hc, hu, pmul_assoc]; rfl⟩
    · exact absurd z hB
theorem prE_dv {p e : Nat → Nat} {X : Nat} : ∀ n, (∀ i, i < n → Irr (p i)) → (∀ i j, i < j → j < n → p i ≠ p j) → (∀ i, i < n → Dv (ppow (p i) (e i)) X) → Dv (prE p e n) X
  | 0, _, _, _ => Dv.one X
  | n + 1, h1, h2, h3 => by
    obtain ⟨c, hc⟩ := prE_dv n (fun i hi => h1 i (by omega)) (fun i j hij hj => h2 i j hij (by omega)) (fun i hi => h3 i (by omega))
    have hnd : ¬ Dv (p n) (prE p e n) := by
      intro h
      obtain ⟨i, hi, he⟩ := prE_irr (h1 n (by omega)) (fun i hi => h1 i (by omega)) h
      exact h2 i n hi (by omega) he.symm
    have h4 := h3 n (by omega)
    rw [hc] at h4
    obtain ⟨u, hu⟩ := dv_powc (h1 n (by omega)) hnd (e n) c h4
    refine ⟨u, ?_⟩
    show X = pmul u (pmul (prE p e n) (ppow (p (0 + n)) (e (0 + n))))
    rw [hc, hu, Nat.zero_add, pmul_assoc, pmul_comm (ppow (p n) (e n))]
theorem eo_pow2 (M T : Nat) : ppow 2 (M * 2 ^ T) ^^^ 1 = ppow (ppow 2 M ^^^ 1) (2 ^ T) := by
  rw [frob, ppow_one, ppow_mul]
theorem ppow_le {P a b : Nat} (h : a ≤ b) : Dv (ppow P a) (ppow P b) := by
  obtain ⟨c, rfl⟩ : ∃ c, b = c + a := ⟨b - a, by omega⟩
  rw [ppow_add]; exact (Dv.rfl' _).mull _
theorem dv_ppow {P A : Nat} (h : Dv P A) (n : Nat) : Dv (ppow P n) (ppow A n) := by
  obtain ⟨q, rfl⟩ := h
  rw [ppow_mulb]; exact (Dv.rfl' _).mull _
theorem eo_up {p e : Nat → Nat} {n G M T : Nat} (h : FA p e n G) (hM : ∀ i, i < n → Eo (p i) M) (hT : ∀ i, i < n → e i ≤ 2 ^ T) : Eo G (M * 2 ^ T) := by
  show Dv G (ppow 2 (M * 2 ^ T) ^^^ 1)
  rw [eo_pow2, ← h.2.2]
  refine prE_dv n (fun i hi => (h.1 i hi).1) (fun i j hij hj => by have := h.2.1 i j hij hj; omega) (fun i hi => ?_)
  exact (ppow_le (hT i hi)).trans (dv_ppow (hM i hi) _)
theorem odd_part : ∀ m : Nat, 1 ≤ m → ∃ s m', m = m' * 2 ^ s ∧ m' % 2 = 1 := by
  intro m
  induction m using Nat.strongRecOn with
  | ind m ih =>
    intro h
    rcases Nat.mod_two_eq_zero_or_one m with z | z
    · obtain ⟨s, m', e1, e2⟩ := ih (m / 2) (by omega) (by omega)
      refine ⟨s + 1, m', ?_, e2⟩
      rw [Nat.pow_succ, ← Nat.mul_assoc, ← e1]; omega
    · exact ⟨0, m, by rw [Nat.pow_zero, Nat.mul_one], z⟩
theorem pder_pow : ∀ j : Nat, pder (2 ^ (2 * j)) = 0 ∧ pder (2 ^ (2 * j + 1)) = 2 ^ (2 * j)
  | 0 => by
    have h1 : pder 1 = 0 := by rw [show (1 : Nat) = 2 * 0 + 1 from rfl, pder_21]; rfl
    refine ⟨h1, ?_⟩
    show pder (2 * 1) = 1
    rw [pder_2, h1]; rfl
  | j + 1 => by
    have h1 : pder (2 ^ (2 * (j + 1))) = 0 := by
      rw [show 2 ^ (2 * (j + 1)) = 2 * 2 ^ (2 * j + 1) by rw [show 2 * (j + 1) = 2 * j + 1 + 1 by omega, Nat.pow_succ 2 (2 * j + 1), Nat.mul_comm], pder_2, (pder_pow j).2]
      rw [show 2 ^ (2 * j + 1) = 2 * 2 ^ (2 * j) by rw [Nat.pow_succ, Nat.mul_comm], Nat.xor_self]
    refine ⟨h1, ?_⟩
    rw [Nat.pow_succ, Nat.mul_comm, pder_2, h1]; simp
theorem sqf {P m : Nat} (hP : Irr P) (hm : m % 2 = 1) : ¬ Dv (pmul P P) (ppow 2 m ^^^ 1) := by
  intro h
  have h1 := pder_dv h
  obtain ⟨j, rfl⟩ : ∃ j, m = 2 * j + 1 := ⟨m / 2, by omega⟩
  have hd1 : pder 1 = 0 := by rw [show (1 : Nat) = 2 * 0 + 1 from rfl, pder_21]; rfl
  rw [pder_x, ppow_two, (pder_pow j).2, hd1, Nat.xor_zero, ← ppow_two] at h1
  have hP2 : Dv P 2 := by
    apply Classical.byContradiction
    intro hn
    exact hP.npow hn _ h1
  have h3 : Dv P (ppow 2 (2 * j + 1)) := (dv_pow (P := P) (n := 2 * j + 1) (by omega)).trans (dv_ppow hP2 _)
  have h4 : Dv P (ppow 2 (2 * j + 1) ^^^ 1) := ((Dv.rfl' P).mull P).trans h
  have h5 : Dv P 1 := by
    have := h3.xor h4
    rwa [← Nat.xor_assoc, Nat.xor_self, Nat.zero_xor] at this
  have := h5.eq1
  have := hP.1
  omega
theorem val_le {P A e k : Nat} (hP : Irr P) (hA : ¬ Dv (pmul P P) A) (he : 1 ≤ e) (h : Dv (ppow P e) (ppow A k)) : Dv P A ∧ e ≤ k := by
  have h1 : Dv P (ppow A k) := (dv_pow he).trans h
  have h2 : Dv P A := by
    apply Classical.byContradiction
    intro hn
    exact hP.npow hn _ h1
  refine ⟨h2, ?_⟩
  obtain ⟨B, hB⟩ := h2
  have hnB : ¬ Dv P B := by
    rintro ⟨C, hC⟩
    exact hA ⟨C, by rw [hB, hC, pmul_assoc]⟩
  rcases Nat.lt_or_ge k e with z | z
  · exfalso
    have h3 : Dv (ppow P (1 + k)) (ppow A k) := (ppow_le (by omega)).trans h
    rw [hB, ppow_mulb, ppow_add, ppow_1] at h3
    obtain ⟨q, hq⟩ := h3
    rw [← pmul_assoc] at hq
    have h4 := pmul_canc (ppow_pos hP.pos k) hq
    exact hP.npow hnB k ⟨q, h4⟩
  · exact z
theorem eo_down {p e : Nat → Nat} {n G m : Nat} (h : FA p e n G) (hm : 1 ≤ m) (hE : Eo G m) : ∃ s m', m = m' * 2 ^ s ∧ ∀ i, i < n → Eo (p i) m' ∧ e i ≤ 2 ^ s := by
  obtain ⟨s, m', e1, e2⟩ := odd_part m hm
  refine ⟨s, m', e1, fun i hi => ?_⟩
  have h1 : Dv G (ppow 2 (m' * 2 ^ s) ^^^ 1) := by rw [← e1]; exact hE
  rw [eo_pow2] at h1
  have h2 : Dv (ppow (p i) (e i)) G := by
    have := pr_dv (p := fun i => ppow (p i) (e i)) (a := 0) (j := i) n hi
    rw [Nat.zero_add] at this
    rw [← h.2.2]; exact this
  exact val_le (h.1 i hi).1 (sqf (h.1 i hi).1 e2) (h.1 i hi).2 (h2.trans h1)
/-- the order is the least common multiple of the factors' orders, doubled as often as the multiplicities ask -/
theorem od_fa {p e o : Nat → Nat} {n G L T : Nat} (h : FA p e n G) (ho : ∀ i, i < n → Od (p i) (o i)) (hL0 : 1 ≤ L) (hL : ∀ i, i < n → o i ∣ L) (hL2 : ∀ m, (∀ i, i < n → o i ∣ m) → L ∣ m) (hT : ∀ i, i < n → e i ≤ 2 ^ T) (hT2 : T = 0 ∨ ∃ i, i < n ∧ 2 ^ (T - 1) < e i) : Od G (L * 2 ^ T) := by
  refine ⟨Nat.mul_pos hL0 (Nat.two_pow_pos T), eo_up h (fun i hi => (ho i hi).2.1.dvd (hL i hi)) hT, fun m hm hE => ?_⟩
  obtain ⟨s, m', e1, e2⟩ := eo_down h hm hE
  have h1 : L ∣ m' := hL2 m' (fun i hi => (ho i hi).dvd (e2 i hi).1)
  have h2 : T ≤ s := by
    rcases hT2 with z | ⟨i, hi, hi2⟩
    · omega
    · rcases Nat.lt_or_ge s T with y | y
      · have : 2 ^ s ≤ 2 ^ (T - 1) := pow_le_of_le (by omega)
        have := (e2 i hi).2; omega
      · exact y
  have hm' : 1 ≤ m' := by
    rcases Nat.eq_zero_or_pos m' with z | z
    · rw [z, Nat.zero_mul] at e1; omega
    · exact z
  rw [e1]
  exact Nat.mul_le_mul (Nat.le_of_dvd hm' h1) (pow_le_of_le h2)

/-! ===== the orders both sides find ===== -/
theorem fa_deg {p e : Nat → Nat} {n G w : Nat} (h : FA p e n G) (hG : Dg G w) : ∃ g : Nat → Nat, (∀ i, i < n → Dg (p i) (g i) ∧ 1 ≤ g i) ∧ sm g n ≤ w ∧ ∀ i, i < n → e i ≤ w := by
  have hd : ∀ i, i < n → Dv (ppow (p i) (e i)) G := fun i hi => by
    have := pr_dv (p := fun i => ppow (p i) (e i)) (a := 0) (j := i) n hi
    rw [Nat.zero_add] at this
    rw [← h.2.2]; exact this
  obtain ⟨g, hg, hs⟩ := dn_sum (p := p) (e := e) (a := n) (d := w + 1) (R := 1) ⟨fun i hi => ⟨(h.1 i hi).1, (h.1 i hi).2, dv_lt ((dv_pow (h.1 i hi).2).trans (hd i hi)) hG.pos hG.2⟩, h.2.1, by rw [pmul_1]; exact h.2.2⟩ hG (show Dg 1 0 from ⟨by decide, by decide⟩)
  refine ⟨g, fun i hi => ⟨hg i hi, (h.1 i hi).1.dgpos (hg i hi)⟩, by omega, fun i hi => ?_⟩
  have h1 := (hd i hi).le hG.pos ((hg i hi).pow (e i))
  have h2 : g i * e i ≤ w := by
    rcases Nat.lt_or_ge w (g i * e i) with z | z
    · have : 2 ^ (w + 1) ≤ 2 ^ (g i * e i) := pow_le_of_le z
      have := hG.2; omega
    · exact z
  have h3 := (h.1 i hi).1.dgpos (hg i hi)
  have : 1 * e i ≤ g i * e i := Nat.mul_le_mul_right _ h3
  omega
def lcv (a b : Nat) : Nat := a / Nat.gcd a b * b
theorem lcv_ok {a b : Nat} (ha : 1 ≤ a) (hb : 1 ≤ b) : 1 ≤ lcv a b ∧ a ∣ lcv a b ∧ b ∣ lcv a b ∧ lcv a b ≤ a * b ∧ ∀ m, a ∣ m → b ∣ m → lcv a b ∣ m := by
  have hg : 0 < Nat.gcd a b := Nat.gcd_pos_of_pos_left b ha
  have e : lcv a b = Nat.lcm a b := by
    unfold lcv Nat.lcm
    obtain ⟨a', ha'⟩ := Nat.gcd_dvd_left a b
    have h1 : a / Nat.gcd a b = a' := by
      conv => lhs; lhs; rw [ha']
      exact Nat.mul_div_cancel_left a' hg
    have h2 : a * b / Nat.gcd a b = a' * b := by
      conv => lhs; lhs; lhs; rw [ha']
      rw [Nat.mul_assoc]; exact Nat.mul_div_cancel_left _ hg
    rw [h1, h2]
  have hle : lcv a b ≤ a * b := Nat.mul_le_mul_right b (Nat.div_le_self _ _)
  rw [e] at hle ⊢
  exact ⟨Nat.lcm_pos ha hb, Nat.dvd_lcm_left a b, Nat.dvd_lcm_right a b, hle, fun m h1 h2 => Nat.lcm_dvd h1 h2⟩
theorem gcd_step (a b : Nat) : Nat.gcd b (a % b) = Nat.gcd a b := by rw [Nat.gcd_comm b, ← Nat.gcd_rec, Nat.gcd_comm]
theorem sX6_common_L {N : Nat} {k : Int64 → Option Int64} : ∀ (z b a : Nat), b < z → a < 2 ^ 63 → b < 2 ^ 63 → fX6_common_L6 N k z (lN a) (lN b) = k (lN (Nat.gcd a b)) := by
  intro z
  induction z with
  | zero => intro b a h; omega
  | succ z ih =>
    intro b a hz ha hb
    rw [fX6_common_L6_s, fX6_common_B6]
    rcases Nat.eq_zero_or_pos b with rfl | h0
    · rw [if_pos (show lN 0 = (0 : Int64) from rfl), Nat.gcd_zero_right]
    · have hn : ¬ lN b = (0 : Int64) := fun q => by have := (lE0 hb).mp q; omega
      have hm := Nat.mod_lt a h0
      rw [if_neg hn, if_neg hn, show lRem (lN a) (lN b) = lN (a % b) from pk_lRem ha h0 hb, ih (a % b) b (by omega) hb (by omega), gcd_step]
theorem sX6_common {N a b : Nat} (hN : Big N) (ha : a < 2 ^ 63) (hb : b < 2 ^ 36) : fX6_common N (lN a) (lN b) = some (lN (Nat.gcd a b)) := by
  unfold fX6_common
  have hN' : 2 ^ 36 ≤ N := hN
  exact sX6_common_L N b a (by omega) ha (by omega)
def Mst (e : Nat → Nat) (i most : Nat) : Prop := 1 ≤ most ∧ (∀ j, j < i → e j ≤ most) ∧ (most = 1 ∨ ∃ j, j < i ∧ e j = most)
theorem Mst.zero (e : Nat → Nat) : Mst e 0 1 := ⟨Nat.le_refl _, fun j hj => by omega, Or.inl rfl⟩
theorem Mst.keep {e : Nat → Nat} {i m : Nat} (h : Mst e i m) (hle : e i ≤ m) : Mst e (i + 1) m := ⟨h.1, fun j hj => by
  by_cases q : j = i
  · rw [q]; exact hle
  · exact h.2.1 j (by omega), h.2.2.imp id (fun ⟨j, a, b⟩ => ⟨j, by omega, b⟩)⟩
theorem Mst.more {e : Nat → Nat} {i m : Nat} (h : Mst e i m) (hlt : m < e i) : Mst e (i + 1) (e i) := ⟨by have := h.1; omega, fun j hj => by
  by_cases q : j = i
  · rw [q]; exact Nat.le_refl _
  · have := h.2.1 j (by omega); omega, Or.inr ⟨i, by omega, rfl⟩⟩
theorem Mst.cap {e : Nat → Nat} {i m w : Nat} (h : Mst e i m) (hw : 1 ≤ w) (he : ∀ j, j < i → e j ≤ w) : m ≤ w := by
  rcases h.2.2 with z | ⟨j, a, b⟩
  · omega
  · have := he j a; omega
def Two (most T : Nat) : Prop := most ≤ 2 ^ T ∧ (T = 0 ∨ 2 ^ (T - 1) < most)
theorem Two.uniq {m T T' : Nat} (h : Two m T) (h' : Two m T') : T = T' := by
  rcases Nat.lt_trichotomy T T' with z | z | z
  · rcases h'.2 with y | y
    · omega
    · have : 2 ^ T ≤ 2 ^ (T' - 1) := pow_le_of_le (by omega)
      have := h.1; omega
  · exact z
  · rcases h.2 with y | y
    · omega
    · have : 2 ^ T' ≤ 2 ^ (T - 1) := pow_le_of_le (by omega)
      have := h'.1; omega
theorem Two.cap {m T : Nat} (h : Two m T) (hm : m ≤ 32) : T ≤ 5 := by
  rcases Nat.lt_or_ge 5 T with z | z
  · rcases h.2 with y | y
    · omega
    · have : 2 ^ 5 ≤ 2 ^ (T - 1) := pow_le_of_le (by omega)
      omega
  · exact z
theorem od_two {p e o : Nat → Nat} {n G L T most : Nat} (h : FA p e n G) (ho : ∀ i, i < n → Od (p i) (o i)) (hL0 : 1 ≤ L) (hL : ∀ i, i < n → o i ∣ L) (hL2 : ∀ m, (∀ i, i < n → o i ∣ m) → L ∣ m) (hm : Mst e n most) (hT : Two most T) : Od G (L * 2 ^ T) := by
  refine od_fa h ho hL0 hL hL2 (fun i hi => Nat.le_trans (hm.2.1 i hi) hT.1) ?_
  rcases hT.2 with z | z
  · exact Or.inl z
  · rcases hm.2.2 with y | ⟨j, a, b⟩
    · have := Nat.two_pow_pos (T - 1)
      omega
    · exact Or.inr ⟨j, a, by omega⟩
theorem findOrder_two {N most : Nat} {mW : Nat → Int32} {mP : Nat → Int64} {mF : Nat → Int64} {mH mM : Nat → Int32} {x1 : Int32} {x2 : Int64} {k : Int32 → Option Int64} (hmo : most < 2 ^ 31) : ∀ (j z T : Nat), j < z → most ≤ 2 ^ (T + j) → T + j ≤ 20 → (T = 0 ∨ 2 ^ (T - 1) < most) → ∃ T', Two most T' ∧ T' ≤ 20 ∧ fX6_findOrder_L97 N mW mP mF mH mM x1 x2 (nI most) k z (nI (2 ^ T)) = k (nI (2 ^ T')) := by
  intro j
  induction j with
  | zero =>
    intro z T hz h1 h2 h3
    obtain ⟨z, rfl⟩ : ∃ y, z = y + 1 := ⟨z - 1, by omega⟩
    have : 2 ^ T ≤ 2 ^ 20 := pow_le_of_le (by omega)
    rw [Nat.add_zero] at h1
    refine ⟨T, ⟨h1, h3⟩, by omega, ?_⟩
    rw [fX6_findOrder_L97_s, fX6_findOrder_B97, if_pos (nI_le h1 (by omega))]
  | succ j ih =>
    intro z T hz h1 h2 h3
    obtain ⟨z, rfl⟩ : ∃ y, z = y + 1 := ⟨z - 1, by omega⟩
    have : 2 ^ T ≤ 2 ^ 20 := pow_le_of_le (by omega)
    by_cases h : most ≤ 2 ^ T
    · refine ⟨T, ⟨h, h3⟩, by omega, ?_⟩
      rw [fX6_findOrder_L97_s, fX6_findOrder_B97, if_pos (nI_le h (by omega))]
    · obtain ⟨T', a, b, c⟩ := ih z (T + 1) (by omega) (by rw [show T + 1 + j = T + (j + 1) by omega]; exact h1) (by omega) (Or.inr (by rw [show T + 1 - 1 = T by omega]; omega))
      refine ⟨T', a, b, ?_⟩
      rw [fX6_findOrder_L97_s, fX6_findOrder_B97, if_neg (nI_ge (by omega) (by omega)), show (2 : Int32) = nI 2 from rfl, pk_mul, ← Nat.pow_succ]
      exact c
theorem eo_pmod {G w m : Nat} (hG : Dg G w) (hw : 1 ≤ w) : pmod (ppow 2 m) G = 1 ↔ Eo G m := by
  have h1 : 1 < 2 ^ w := by have : 2 ^ 1 ≤ 2 ^ w := pow_le_of_le hw; omega
  constructor
  · intro h
    have := pmod_cg (ppow 2 m) G
    rw [h] at this
    exact this.symm
  · intro h
    exact pmod_eq hG h1 (Cg.symm h)
theorem findOrder_div {N f w P o c r q : Nat} {mW : Nat → Int32} {mP : Nat → Int64} {mF : Nat → Int64} {mH mM : Nat → Int32} (self : Int64 → Int64 → Int64 → Option Int64) (hN : Big N) (hf : f < 8) (hW : mW f = nI w) (hQ : mP f = lN P) (hw1 : 3 ≤ w) (hw : w ≤ 32) (hP : P < 2 ^ w) (ho : Od (2 ^ w ^^^ P) o) (hc : 1 ≤ c) (hr : 1 ≤ r) (hro : r ∣ o) (hn : o * c < 2 ^ 38) (hq : Pm q) (hql : q ∣ c * r) : ∃ c' r', 1 ≤ c' ∧ 1 ≤ r' ∧ r' ∣ o ∧ o * c' < 2 ^ 38 ∧ c * r = q * (c' * r') ∧ fX6_findOrder_J152 N mW mP mF mH mM (nI f) self (lN (o * c)) (lN (c * r)) (lN q) = self (lN (o * c')) (lN (c' * r')) (lN q) := by
  have hG := gq_dg (w := w) hP
  have ho1 := ho.1
  have hq2 := hq.1
  have hrle := Nat.le_of_dvd ho1 hro
  have hlt : c * r ≤ o * c := by rw [Nat.mul_comm o c]; exact Nat.mul_le_mul_left c hrle
  have hql' := Nat.le_of_dvd (Nat.mul_pos hc hr) hql
  have hqn : ¬ lN q = (0 : Int64) := fun y => by have := (lE0 (by omega)).mp y; omega
  have h8 : 2 ^ 3 ≤ 2 ^ w := pow_le_of_le hw1
  have hup : fX6_up N mW mP (nI f) (1 : Int64) = some (lN 2) := by
    rw [l1, sX6_up hf hW hQ (by omega) hw hP (by omega), pmod_eq hG (r := 2) (by omega) Cg.rfl']
  have hdl : lN (c * r) / lN q = lN (c * r / q) := pk_lDiv (by omega) (by omega) (by omega)
  have hdn : lN (o * c) / lN q = lN (o * c / q) := pk_lDiv (by omega) (by omega) (by omega)
  have hdle : o * c / q ≤ o * c := Nat.div_le_self _ _
  have hpw := sX6_power (N := N) (f := f) (w := w) (P := P) (base := 2) (a := o * c / q) (mW := mW) (mP := mP) hN hf hW hQ (by omega) hw hP (by omega) (by omega)
  have hpl := pmod_lt hG (ppow 2 (o * c / q))
  have h32 : 2 ^ w ≤ 2 ^ 32 := pow_le_of_le hw
  have hrm : lRem (lN (c * r)) (lN q) = (0 : Int64) := by
    have : lRem (lN (c * r)) (lN q) = lN (c * r % q) := pk_lRem (by omega) (by omega) (by omega)
    rw [this, Nat.mod_eq_zero_of_dvd hql]; rfl
  unfold fX6_findOrder_J152
  simp only [if_neg hqn, hup, Option.bind_some, hdn, hpw, hdl]
  rw [if_pos hrm]
  have hcanc : ∀ a : Nat, q * a / q = a := fun a => Nat.mul_div_cancel_left a (by omega)
  by_cases hqc : q ∣ c
  · obtain ⟨c', rfl⟩ := hqc
    have hc' : 1 ≤ c' := by rcases Nat.eq_zero_or_pos c' with y | y; (rw [y, Nat.mul_zero] at hc; omega); exact y
    have e1 : o * (q * c') / q = o * c' := by rw [Nat.mul_left_comm]; exact hcanc _
    have e2 : q * c' * r / q = c' * r := by rw [Nat.mul_assoc]; exact hcanc _
    refine ⟨c', r, hc', hr, hro, ?_, by rw [Nat.mul_assoc], ?_⟩
    · rw [e1] at hdle; omega
    · rw [e1, e2, (eo_pmod hG (by omega)).mpr (ho.2.1.mul c'), if_pos (show lN 1 = (1 : Int64) from rfl)]
  · have hqr : q ∣ r := (hq.euclid hql).resolve_left hqc
    obtain ⟨r', rfl⟩ := hqr
    have hr' : 1 ≤ r' := by rcases Nat.eq_zero_or_pos r' with y | y; (rw [y, Nat.mul_zero] at hr; omega); exact y
    have e2 : c * (q * r') / q = c * r' := by rw [Nat.mul_left_comm]; exact hcanc _
    refine ⟨c, r', hc, hr', Nat.dvd_trans ⟨q, Nat.mul_comm _ _⟩ hro, hn, by rw [Nat.mul_left_comm], ?_⟩
    have hne : ¬ pmod (ppow 2 (o * c / q)) (2 ^ w ^^^ P) = 1 := by
      intro h
      have h1 := ho.dvd ((eo_pmod hG (by omega)).mp h)
      obtain ⟨s, hs⟩ := hro
      have h3 : o = q * (r' * s) := by rw [hs, Nat.mul_assoc]
      have h2 : o * c / q = r' * s * c := by
        conv => lhs; lhs; lhs; rw [h3]
        rw [Nat.mul_assoc]; exact hcanc _
      rw [h2] at h1
      obtain ⟨u, hu⟩ := h1
      have hrs : 0 < r' * s := by
        rcases Nat.eq_zero_or_pos (r' * s) with y | y
        · rw [y, Nat.mul_zero] at h3; omega
        · exact y
      refine hqc ⟨u, Nat.eq_of_mul_eq_mul_left hrs ?_⟩
      rw [hu]
      conv => lhs; lhs; rw [h3]
      rw [Nat.mul_assoc, Nat.mul_left_comm]
    rw [if_neg (show ¬ lN (pmod (ppow 2 (o * c / q)) (2 ^ w ^^^ P)) = (1 : Int64) from fun y => hne ((lEq (b := 1) (by omega) (by decide)).mp y)), e2]
theorem findOrder_L {N f w P o : Nat} {mW : Nat → Int32} {mP : Nat → Int64} {mF : Nat → Int64} {mH mM : Nat → Int32} {k : Int64 → Option Int64} (hN : Big N) (hf : f < 8) (hW : mW f = nI w) (hQ : mP f = lN P) (hw1 : 3 ≤ w) (hw : w ≤ 32) (hP : P < 2 ^ w) (ho : Od (2 ^ w ^^^ P) o) : ∀ (s z c r q j t : Nat), s + 1 < z → j + t ≤ s → c * r < 2 ^ j → j ≤ 38 → 2 ^ 19 ≤ q + t → 2 ≤ q → q ≤ 2 ^ 19 → 1 ≤ c → 1 ≤ r → r ∣ o → o * c < 2 ^ 38 → (∀ a, 2 ≤ a → a ∣ c * r → q ≤ a) → fX6_findOrder_L127 N mW mP mF mH mM (nI f) k z (lN (o * c)) (lN (c * r)) (lN q) = k (lN o) := by
  have fin : ∀ (z c r : Nat) (q : Int64), 0 < z → c * r = 1 → fX6_findOrder_L127 N mW mP mF mH mM (nI f) k z (lN (o * c)) (lN (c * r)) q = k (lN o) := by
    intro z c r q hz h
    obtain ⟨z, rfl⟩ : ∃ y, z = y + 1 := ⟨z - 1, by omega⟩
    have hc : c = 1 := Nat.eq_one_of_mul_eq_one_right h
    rw [fX6_findOrder_L127_s, fX6_findOrder_B127, h, if_pos (show lN 1 ≤ (1 : Int64) by decide), hc, Nat.mul_one]
  intro s
  induction s with
  | zero =>
    intro z c r q j t hz hjt hlt hj ht hq2 hq19 hc hr hro hn hmin
    have : j = 0 := by omega
    subst this
    have := Nat.mul_pos hc hr
    simp at hlt; omega
  | succ s ih =>
    intro z c r q j t hz hjt hlt hj ht hq2 hq19 hc hr hro hn hmin
    obtain ⟨z, rfl⟩ : ∃ y, z = y + 1 := ⟨z - 1, by omega⟩
    have hpos := Nat.mul_pos hc hr
    have h38 : 2 ^ j ≤ 2 ^ 38 := pow_le_of_le hj
    by_cases h1 : c * r = 1
    · exact fin (z + 1) c r (lN q) (by omega) h1
    · have hqq : q * q ≤ 2 ^ 19 * 2 ^ 19 := Nat.mul_le_mul hq19 hq19
      rw [fX6_findOrder_L127_s, fX6_findOrder_B127, if_neg (show ¬ lN (c * r) ≤ (1 : Int64) from fun y => by have := (pk_lLE (b := 1) (by omega) (by decide)).mp y; omega), lN_mul]
      by_cases hle : q * q ≤ c * r
      · rw [if_pos ((pk_lLE (by omega) (by omega)).mpr hle)]
        have hql : q < 2 ^ 19 := by
          rcases Nat.lt_or_ge q (2 ^ 19) with y | y
          · exact y
          · have := Nat.mul_le_mul y y; omega
        by_cases hd : q ∣ c * r
        · have hpm : Pm q := ⟨hq2, fun a ha => by
            have hq0 : 0 < q := by omega
            have hle := Nat.le_of_dvd hq0 ha
            have ha0 := Nat.pos_of_dvd_of_pos ha hq0
            rcases Nat.lt_or_ge a 2 with y | y
            · exact Or.inl (by omega)
            · have := hmin a y (Nat.dvd_trans ha hd)
              exact Or.inr (by omega)⟩
          obtain ⟨c', r', a1, a2, a3, a4, a5, a6⟩ := findOrder_div (N := N) (mF := mF) (mH := mH) (mM := mM) (fX6_findOrder_L127 N mW mP mF mH mM (nI f) k z) hN hf hW hQ hw1 hw hP ho hc hr hro hn hpm hd
          rw [a6]
          have h2 : 2 * (c' * r') ≤ q * (c' * r') := Nat.mul_le_mul_right _ hq2
          have hp' := Nat.mul_pos a1 a2
          obtain ⟨j', rfl⟩ : ∃ y, j = y + 1 := ⟨j - 1, by
            rcases Nat.eq_zero_or_pos j with y | y
            · rw [y] at hlt; simp at hlt; omega
            · omega⟩
          rw [Nat.pow_succ] at hlt
          exact ih z c' r' q j' t (by omega) (by omega) (by omega) (by omega) ht hq2 hq19 a1 a2 a3 a4 (fun a y1 y2 => hmin a y1 (by rw [a5]; exact Nat.dvd_trans y2 ⟨q, Nat.mul_comm _ _⟩))
        · have hqn : ¬ lN q = (0 : Int64) := fun y => by have := (lE0 (by omega)).mp y; omega
          have hrm : lRem (lN (c * r)) (lN q) = lN (c * r % q) := pk_lRem (by omega) (by omega) (by omega)
          have hml := Nat.mod_lt (c * r) (show 0 < q by omega)
          have hrn : ¬ lRem (lN (c * r)) (lN q) = (0 : Int64) := by
            rw [hrm]
            intro y
            exact hd (Nat.dvd_of_mod_eq_zero ((lE0 (by omega)).mp y))
          unfold fX6_findOrder_J152
          rw [if_neg hqn, if_neg hrn, lN_1]
          exact ih z c r (q + 1) j (t - 1) (by omega) (by omega) hlt hj (by omega) (by omega) (by omega) hc hr hro hn (fun a y1 y2 => by
            have := hmin a y1 y2
            have : a ≠ q := fun y => hd (by rw [← y]; exact y2)
            omega)
      · rw [if_neg (fun y => hle ((pk_lLE (by omega) (by omega)).mp y))]
        have hpm : Pm (c * r) := ⟨by omega, fun a ha => by
          have ha0 := Nat.pos_of_dvd_of_pos ha hpos
          obtain ⟨b, hb⟩ := ha
          rcases Nat.lt_or_ge a 2 with y | y
          · exact Or.inl (by omega)
          · rcases Nat.lt_or_ge b 2 with y2 | y2
            · have : b = 1 := by
                rcases Nat.eq_zero_or_pos b with y3 | y3
                · rw [y3, Nat.mul_zero] at hb; omega
                · omega
              rw [this, Nat.mul_one] at hb
              exact Or.inr hb.symm
            · exfalso
              have b1 := hmin a y ⟨b, hb⟩
              have b2 := hmin b y2 ⟨a, by rw [hb, Nat.mul_comm]⟩
              have := Nat.mul_le_mul b1 b2
              omega⟩
        obtain ⟨c', r', a1, a2, a3, a4, a5, a6⟩ := findOrder_div (N := N) (mF := mF) (mH := mH) (mM := mM) (fX6_findOrder_L127 N mW mP mF mH mM (nI f) k z) hN hf hW hQ hw1 hw hP ho hc hr hro hn hpm (Nat.dvd_refl _)
        rw [a6]
        have h5 : c' * r' = 1 := by
          have : c * r * 1 = c * r * (c' * r') := by rw [Nat.mul_one]; exact a5
          exact (Nat.eq_of_mul_eq_mul_left hpos this).symm
        exact fin z c' r' _ (by omega) h5
theorem pk_two_sub (d : Nat) (hd : d ≤ 40) : lShl (1 : Int64) (nI d) - (1 : Int64) = lN (2 ^ d - 1) := by
  have := Nat.two_pow_pos d
  rw [l1, lSh 1 (by omega), Nat.one_mul, lN_sub (by omega)]
theorem findOrder_8 {N f n w G : Nat} {p e g : Nat → Nat} {mW : Nat → Int32} {mP : Nat → Int64} {mF : Nat → Int64} {mH mM : Nat → Int32} {k : Int64 → Int32 → Option Int64} (hN : Big N) (hf : f < 8) (hFA : FA p e n G) (hodd : G % 2 = 1) (hn : n ≤ 32) (hw : w ≤ 32) (hg : ∀ i, i < n → Dg (p i) (g i) ∧ 1 ≤ g i) (hgs : sm g n ≤ w) (hes : ∀ i, i < n → e i ≤ w) (hF : MF f mF mH p e n) (hM : mM f = nI n) : ∀ (j z i M most : Nat), j < z → i + j = n → 1 ≤ M → M ≤ 2 ^ sm g i → (∀ a, a < i → Eo (p a) M) → Mst e i most → most ≤ 32 → ∃ M' most', 1 ≤ M' ∧ M' ≤ 2 ^ sm g n ∧ (∀ a, a < n → Eo (p a) M') ∧ Mst e n most' ∧ most' ≤ 32 ∧ fX6_findOrder_L8 N mW mP mF mH mM (nI f) k z (lN M) (nI most) (nI i) = k (lN M') (nI most') := by
  have hob : ¬ OOB (nI f) 8 := oob_nI hf (by decide)
  intro j
  induction j with
  | zero =>
    intro z i M most hz hi h1 h2 h3 h4 h5
    obtain ⟨z, rfl⟩ : ∃ y, z = y + 1 := ⟨z - 1, by omega⟩
    have : i = n := by omega
    subst this
    refine ⟨M, most, h1, h2, h3, h4, h5, ?_⟩
    rw [fX6_findOrder_L8_s, fX6_findOrder_B8, if_neg hob, nCl (show f < 2 ^ 31 by omega), hM, if_pos (nI_le (Nat.le_refl _) (by omega))]
  | succ j ih =>
    intro z i M most hz hi h1 h2 h3 h4 h5
    obtain ⟨z, rfl⟩ : ∃ y, z = y + 1 := ⟨z - 1, by omega⟩
    have hin : i < n := by omega
    have hix : (33 : Int32) * nI f + nI i = nI (33 * f + i) := by rw [show (33 : Int32) = nI 33 from rfl, pk_mul, nI_add]
    have ho2 : ¬ OOB (nI (33 * f + i)) 264 := oob_nI (by omega) (by decide)
    have hsm : ∀ a b, a ≤ b → sm g a ≤ sm g b := by
      intro a b hab
      obtain ⟨c, rfl⟩ : ∃ c, b = a + c := ⟨b - a, by omega⟩
      rw [sm_split]; omega
    have hs1 : sm g (i + 1) = sm g i + g i := rfl
    have hs2 := hsm (i + 1) n (by omega)
    have hgi := (hg i hin).2
    have hgd := (hg i hin).1
    have hd33 : 2 ^ (g i + 1) ≤ 2 ^ 33 := pow_le_of_le (by omega)
    have hdb := hgd.2
    have hp2 : 2 ≤ 2 ^ g i := by have : 2 ^ 1 ≤ 2 ^ g i := pow_le_of_le hgi; omega
    have hm32 : 2 ^ g i ≤ 2 ^ 32 := pow_le_of_le (by omega)
    have hM32 : 2 ^ sm g i ≤ 2 ^ 32 := pow_le_of_le (by omega)
    obtain ⟨l1', l2', l3', l4', l5'⟩ := lcv_ok (a := M) (b := 2 ^ g i - 1) h1 (by omega)
    have hcm := sX6_common (N := N) (a := M) (b := 2 ^ g i - 1) hN (by omega) (by omega)
    have hgp : 0 < Nat.gcd M (2 ^ g i - 1) := Nat.gcd_pos_of_pos_left _ h1
    have hgl : Nat.gcd M (2 ^ g i - 1) ≤ M := Nat.le_of_dvd h1 (Nat.gcd_dvd_left _ _)
    have hgn : ¬ lN (Nat.gcd M (2 ^ g i - 1)) = (0 : Int64) := fun y => by have := (lE0 (by omega)).mp y; omega
    have hval : lN M / lN (Nat.gcd M (2 ^ g i - 1)) * lN (2 ^ g i - 1) = lN (lcv M (2 ^ g i - 1)) := by
      rw [pk_lDiv (by omega) hgp (by omega), lN_mul]; rfl
    have hle : lcv M (2 ^ g i - 1) ≤ 2 ^ sm g (i + 1) := by
      refine Nat.le_trans l4' ?_
      rw [hs1, Nat.pow_add]
      exact Nat.mul_le_mul h2 (by omega)
    have hE : ∀ a, a < i + 1 → Eo (p a) (lcv M (2 ^ g i - 1)) := by
      intro a ha
      by_cases q : a = i
      · subst q
        have hirr := (hFA.1 a hin).1
        have : Eo (p a) (2 ^ g a - 1) := by
          by_cases hx : Dv (p a) 2
          · exfalso
            have h1 : Dv (p a) G := by
              have := pr_dv (p := fun i => ppow (p i) (e i)) (a := 0) (j := a) n hin
              rw [Nat.zero_add] at this
              rw [← hFA.2.2]; exact (dv_pow (hFA.1 a hin).2).trans this
            have h2 := dv_odd hodd h1
            obtain ⟨c, hc⟩ := hx
            have hc0 : 0 < c := by rcases Nat.eq_zero_or_pos c with y | y; (rw [y, pmul_0l] at hc; omega); exact y
            have h6 := hgd.1
            have h4 : g a ≤ 1 := by
              have h5 := Dv.le ⟨c, hc⟩ (by decide) hgd
              rcases Nat.lt_or_ge 1 (g a) with y | y
              · have : 2 ^ 2 ≤ 2 ^ g a := pow_le_of_le y
                omega
              · exact y
            have h7 : p a < 2 ^ 2 := Nat.lt_of_lt_of_le hgd.2 (pow_le_of_le (by omega))
            have h8 : p a = 3 := by have := hirr.1; omega
            rw [h8] at hc
            obtain ⟨C, hC⟩ := dg_ex hc0
            have h9 := hC.mul (show Dg 3 1 from ⟨by decide, by decide⟩)
            rw [← hc] at h9
            have h10 := h9.uniq (show Dg 2 1 from ⟨by decide, by decide⟩)
            have h11 : C = 0 := by omega
            subst h11
            have : c = 1 := by have := hC.2; simp at this; omega
            rw [this] at hc
            revert hc; decide
          · exact fermat1 hirr hgd hx
        exact this.dvd l3'
      · exact (h3 a (by omega)).dvd l2'
    rw [fX6_findOrder_L8_s, fX6_findOrder_B8]
    simp only [if_neg hob, nCl (show f < 2 ^ 31 by omega), hM, hix, if_neg ho2, nCl (show 33 * f + i < 2 ^ 31 by omega), (hF i hin).1, (hF i hin).2, sX6_degree hN hgd (show p i < 2 ^ 34 by omega), Option.bind_some, pk_two_sub (g i) (by omega), hcm, if_neg hgn, hval, nI_1]
    rw [if_neg (nI_ge hin (by omega))]
    have hei := hes i hin
    by_cases hm : e i ≤ most
    · rw [if_pos (nI_le hm (by omega))]
      exact ih z (i + 1) _ most (by omega) (by omega) l1' hle hE (h4.keep hm) h5
    · rw [if_neg (nI_ge (by omega) (by omega))]
      exact ih z (i + 1) _ (e i) (by omega) (by omega) l1' hle hE (h4.more (by omega)) (by omega)

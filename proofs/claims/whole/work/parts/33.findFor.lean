/-! ===== the class's factors of G ===== -/
theorem sm_split (g : Nat → Nat) (a : Nat) : ∀ n, sm g (a + n) = sm g a + sm (fun j => g (a + j)) n
  | 0 => rfl
  | n + 1 => by
    show sm g (a + n) + g (a + n) = sm g a + (sm (fun j => g (a + j)) n + g (a + n))
    rw [sm_split g a n]; omega
/-- done so far: a factors of degrees below d -/
def Dn (p e : Nat → Nat) (a d R G : Nat) : Prop := (∀ i, i < a → Irr (p i) ∧ 1 ≤ e i ∧ p i < 2 ^ d) ∧ (∀ i j, i < j → j < a → p i < p j) ∧ pmul (prE p e a) R = G
theorem dn_sum {p e : Nat → Nat} {a d R G w : Nat} (h : Dn p e a d R G) (hG : Dg G w) {DR : Nat} (hR : Dg R DR) : ∃ g : Nat → Nat, (∀ i, i < a → Dg (p i) (g i)) ∧ sm g a + DR ≤ w := by
  have hg : ∀ j, ∃ k, j < a → Dg (p j) k := by
    intro j
    by_cases hj : j < a
    · obtain ⟨k, hk⟩ := dg_ex (h.1 j hj).1.pos
      exact ⟨k, fun _ => hk⟩
    · exact ⟨0, fun z => absurd z hj⟩
  let g := fun j => Classical.choose (hg j)
  have hgs : ∀ j, j < a → Dg (p j) (g j) := fun j hj => Classical.choose_spec (hg j) hj
  refine ⟨g, hgs, ?_⟩
  have h1 : Dg (prE p e a) (sm (fun i => g i * e i) a) := pr_dg (p := fun i => ppow (p i) (e i)) (a := 0) a (fun j hj => by
    show Dg (ppow (p (0 + j)) (e (0 + j))) _
    rw [Nat.zero_add]; exact (hgs j hj).pow (e j))
  have h2 := h1.mul hR
  rw [h.2.2] at h2
  have h3 := h2.uniq hG
  have h4 : sm g a ≤ sm (fun i => g i * e i) a := sm_le a (fun j hj => Nat.le_mul_of_pos_right _ (h.1 j hj).2.1)
  omega
theorem cap9 {p e : Nat → Nat} {a b d R G w C : Nat} (h : Dn p e a d R G) (hG : Dg G w) (hw : w ≤ 32) (ho : G % 2 = 1) (hC : Dv C R) (hC0 : 0 < C) (hsq : ∀ q, Irr q → ¬ Dv (pmul q q) C) (hdeg : ∀ q, Irr q → Dv q C → Dg q d) : ∀ p' n', pr p' b n' = C → (∀ j, j < n' → 2 ≤ p' (b + j)) → a + n' ≤ 9 := by
  intro p' n' hpr h2
  have hR0 : 0 < R := by
    have hGp := hG.pos
    exact Dv.pos ⟨prE p e a, h.2.2.symm⟩ hGp
  obtain ⟨DR, hDR⟩ := dg_ex hR0
  obtain ⟨g, hg, hsum⟩ := dn_sum h hG hDR
  have hqe : ∀ j, ∃ q, j < n' → Irr q ∧ Dv q (p' (b + j)) := by
    intro j
    by_cases hj : j < n'
    · obtain ⟨q, h1, h2⟩ := irr_ex _ (h2 j hj)
      exact ⟨q, fun _ => ⟨h1, h2⟩⟩
    · exact ⟨0, fun z => absurd z hj⟩
  let qf := fun j => Classical.choose (hqe j)
  have hq : ∀ j, j < n' → Irr (qf j) ∧ Dv (qf j) (p' (b + j)) := fun j hj => Classical.choose_spec (hqe j) hj
  have hqC : ∀ j, j < n' → Dv (qf j) C := fun j hj => (hq j hj).2.trans (by rw [← hpr]; exact pr_dv n' hj)
  have hRG : Dv R G := ⟨prE p e a, h.2.2.symm⟩
  have hpG : ∀ i, i < a → Dv (p i) G := fun i hi => by
    have h1 := pr_dv (p := fun i => ppow (p i) (e i)) (a := 0) (j := i) a hi
    rw [Nat.zero_add] at h1
    have h2 : Dv (p i) (prE p e a) := (dv_pow (h.1 i hi).2.1).trans h1
    rw [← h.2.2]; exact h2.mulr R
  let Q := fun i => if i < a then p i else qf (i - a)
  let E := fun i => if i < a then g i else d
  have hQl : ∀ i, i < a → Q i = p i := fun i hi => if_pos hi
  have hQr : ∀ j, Q (a + j) = qf j := fun j => by show (if a + j < a then _ else _) = _; rw [if_neg (by omega), show a + j - a = j by omega]
  have hEl : ∀ i, i < a → E i = g i := fun i hi => if_pos hi
  have hEr : ∀ j, E (a + j) = d := fun j => by show (if a + j < a then _ else _) = _; rw [if_neg (by omega)]
  refine nine (q := Q) (d := E) (n := a + n') (fun i hi => ?_) (fun i j hij hj => ?_) ?_
  · by_cases hia : i < a
    · rw [hQl i hia, hEl i hia]
      exact ⟨(h.1 i hia).1, dv_odd ho (hpG i hia), hg i hia⟩
    · obtain ⟨j, rfl⟩ : ∃ j, i = a + j := ⟨i - a, by omega⟩
      rw [hQr, hEr]
      exact ⟨(hq j (by omega)).1, dv_odd ho (((hqC j (by omega)).trans hC).trans hRG), hdeg _ (hq j (by omega)).1 (hqC j (by omega))⟩
  · by_cases hja : j < a
    · rw [hQl i (by omega), hQl j hja]
      have := h.2.1 i j hij hja; omega
    · obtain ⟨j, rfl⟩ : ∃ z, j = a + z := ⟨j - a, by omega⟩
      rw [hQr]
      by_cases hia : i < a
      · rw [hQl i hia]
        have h1 := (h.1 i hia).2.2
        have h2 := (hdeg _ (hq j (by omega)).1 (hqC j (by omega))).1
        omega
      · obtain ⟨i, rfl⟩ : ∃ z, i = a + z := ⟨i - a, by omega⟩
        rw [hQr]
        intro e
        have h1 := pr_two (p := p') (a := b) (i := i) (j := j) (by omega) n' (by omega)
        rw [hpr] at h1
        obtain ⟨u, hu⟩ := (hq i (by omega)).2
        obtain ⟨v, hv⟩ := (hq j (by omega)).2
        refine hsq (qf i) (hq i (by omega)).1 (Dv.trans ⟨pmul u v, ?_⟩ h1)
        rw [hu, hv, ← e, pmul_assoc, pmul_assoc, pmul_lc (qf i) v]
  · have s1 : sm E (a + n') = sm g a + n' * d := by
      rw [sm_split]
      have e1 : sm E a = sm g a := Nat.le_antisymm (sm_le a (fun j hj => by rw [hEl j hj]; exact Nat.le_refl _)) (sm_le a (fun j hj => by rw [hEl j hj]; exact Nat.le_refl _))
      have e2 : sm (fun j => E (a + j)) n' = n' * d := by
        rw [← sm_c d n']
        exact Nat.le_antisymm (sm_le n' (fun j _ => by rw [hEr]; exact Nat.le_refl _)) (sm_le n' (fun j _ => by rw [hEr]; exact Nat.le_refl _))
      rw [e1, e2]
    obtain ⟨DC, hDC⟩ := dg_ex hC0
    have hDC2 : DC ≤ DR := by
      have h1 := hC.le hR0 hDC
      rcases Nat.lt_or_ge DR DC with z | z
      · have : 2 ^ (DR + 1) ≤ 2 ^ DC := pow_le_of_le z
        have := hDR.2; omega
      · exact z
    have hnd : n' * d ≤ DC := by
      have hge : ∀ j, ∃ k, j < n' → Dg (p' (b + j)) k := by
        intro j
        by_cases hj : j < n'
        · obtain ⟨k, hk⟩ := dg_ex (show 0 < p' (b + j) by have := h2 j hj; omega)
          exact ⟨k, fun _ => hk⟩
        · exact ⟨0, fun z => absurd z hj⟩
      let g2 := fun j => Classical.choose (hge j)
      have hg2 : ∀ j, j < n' → Dg (p' (b + j)) (g2 j) := fun j hj => Classical.choose_spec (hge j) hj
      have t1 := pr_dg (p := p') (g := g2) (a := b) n' hg2
      rw [hpr] at t1
      have t2 := t1.uniq hDC
      have t3 : sm (fun _ => d) n' ≤ sm g2 n' := sm_le n' (fun j hj => by
        have a1 := (hq j hj).2.le (show 0 < p' (b + j) by have := h2 j hj; omega) (hdeg _ (hq j hj).1 (hqC j hj))
        rcases Nat.lt_or_ge (g2 j) d with z | z
        · have := (hg2 j hj).2
          have : 2 ^ (g2 j + 1) ≤ 2 ^ d := pow_le_of_le z
          omega
        · exact z)
      rw [sm_c] at t3; omega
    omega
theorem prE_app {p e p2 e2 : Nat → Nat} {a n : Nat} (h : ∀ j, j < a → p2 j = p j ∧ e2 j = e j) : ∀ m, m ≤ n → prE p2 e2 (a + m) = pmul (prE p e a) (pr (fun x => ppow (p2 x) (e2 x)) a m)
  | 0, _ => by
    show prE p2 e2 a = pmul _ 1
    rw [pmul_1]
    exact pr_congr a (fun j hj => by show ppow (p2 (0 + j)) _ = ppow (p (0 + j)) _; rw [Nat.zero_add, (h j hj).1, (h j hj).2])
  | m + 1, hm => by
    show pmul (prE p2 e2 (a + m)) (ppow (p2 (0 + (a + m))) (e2 (0 + (a + m)))) = pmul _ (pmul _ _)
    rw [prE_app (n := n) h m (by omega), pmul_assoc, Nat.zero_add]
/-- the end: one more, or none -/
theorem fin_FA {p e : Nat → Nat} {a d R G w : Nat} (h : Dn p e a d R G) (hG : Dg G w) (hw : w ≤ 32) (ho : G % 2 = 1) (hR : ∀ q, Irr q → Dv q R → 2 ^ d ≤ q) {D : Nat} (hD : Dg R D) (hlt : D < 2 * d) (h1 : R ≠ 1) : a < 9 ∧ FA (fu p a R) (fu e a 1) (a + 1) G := by
  have hR0 := hD.pos
  obtain ⟨q, hq, hqd⟩ := irr_ex R (by omega)
  have hIR : Irr R := by
    refine ⟨by omega, fun x y hxy => ?_⟩
    apply Classical.byContradiction
    intro hn
    have hx0 : 0 < x := by rcases Nat.eq_zero_or_pos x with rfl | z; (rw [pmul_0l] at hxy; omega); exact z
    have hy0 : 0 < y := by rcases Nat.eq_zero_or_pos y with rfl | z; (rw [pmul_0] at hxy; omega); exact z
    have hx2 : 2 ≤ x := by
      rcases Nat.lt_or_ge x 2 with z | z
      · exact absurd (Or.inl (show x = 1 by omega)) hn
      · exact z
    have hy2 : 2 ≤ y := by
      rcases Nat.lt_or_ge y 2 with z | z
      · exact absurd (Or.inr (show y = 1 by omega)) hn
      · exact z
    obtain ⟨i, hi⟩ := dg_ex hx0
    obtain ⟨j, hj⟩ := dg_ex hy0
    have hsum := hi.mul hj
    rw [← hxy] at hsum
    have hij := hsum.uniq hD
    have big : ∀ z k, 2 ≤ z → Dv z R → Dg z k → d ≤ k := by
      intro z k hz hzd hk
      obtain ⟨r, hr, hrd⟩ := irr_ex z hz
      have a1 := hR r hr (hrd.trans hzd)
      have a2 : r < 2 ^ (k + 1) := dv_lt hrd (by omega) hk.2
      rcases Nat.lt_or_ge k d with y | y
      · have : 2 ^ (k + 1) ≤ 2 ^ d := pow_le_of_le y
        omega
      · exact y
    have b1 := big x i hx2 ⟨y, by rw [hxy, pmul_comm]⟩ hi
    have b2 := big y j hy2 ⟨x, hxy⟩ hj
    omega
  have hRd := hR R hIR (Dv.rfl' R)
  have hFA : FA (fu p a R) (fu e a 1) (a + 1) G := by
    refine ⟨fun i hi => ?_, fun i j hij hj => ?_, ?_⟩
    · by_cases q : i = a
      · rw [q, fu_s, fu_s]; exact ⟨hIR, Nat.le_refl _⟩
      · rw [fu_n q, fu_n q]; exact ⟨(h.1 i (by omega)).1, (h.1 i (by omega)).2.1⟩
    · by_cases q : j = a
      · rw [q, fu_s, fu_n (by omega)]
        have := (h.1 i (by omega)).2.2; omega
      · rw [fu_n q, fu_n (by omega)]; exact h.2.1 i j hij (by omega)
    · have := prE_app (p := p) (e := e) (p2 := fu p a R) (e2 := fu e a 1) (a := a) (n := 1) (fun j hj => ⟨fu_n (by omega), fu_n (by omega)⟩) 1 (Nat.le_refl _)
      rw [this, ← h.2.2]
      congr 1
      show pmul 1 (ppow (fu p a R (a + 0)) (fu e a 1 (a + 0))) = R
      rw [Nat.add_zero, fu_s, fu_s, pmul_1l, ppow_1]
  refine ⟨?_, hFA⟩
  obtain ⟨g, hg, hsum⟩ := dn_sum h hG hD
  have hRG : Dv R G := ⟨prE p e a, h.2.2.symm⟩
  have := nine (q := fu p a R) (d := fu g a D) (n := a + 1) (fun i hi => by
    by_cases q : i = a
    · rw [q, fu_s, fu_s]; exact ⟨hIR, dv_odd ho hRG, hD⟩
    · rw [fu_n q, fu_n q]
      refine ⟨(h.1 i (by omega)).1, dv_odd ho ?_, hg i (by omega)⟩
      have h1 := pr_dv (p := fun i => ppow (p i) (e i)) (a := 0) (j := i) a (by omega)
      rw [Nat.zero_add] at h1
      have h2 : Dv (p i) (prE p e a) := (dv_pow (h.1 i (by omega)).2.1).trans h1
      rw [← h.2.2]; exact h2.mulr R) (fun i j hij hj => by
    have := hFA.2.1 i j hij hj; omega) (by
    show sm (fu g a D) a + fu g a D a ≤ 32
    rw [fu_s]
    have : sm (fu g a D) a ≤ sm g a := sm_le a (fun j hj => by rw [fu_n (by omega)]; exact Nat.le_refl _)
    omega)
  omega
theorem sX0_findFor_L {N G w : Nat} {fO fG : Int64} (hN : Big N) (hG : Dg G w) (hw : w ≤ 32) (ho : G % 2 = 1) : ∀ (t z d a R : Nat) (p e : Nat → Nat) (fP : Nat → Int64) (fT : Nat → Int32), t < z → d + t = 18 → 1 ≤ d → a ≤ 9 → AP fP p a → AT fT e a → Dn p e a d R G → (∀ q, Irr q → Dv q R → 2 ^ d ≤ q) →
    ∃ p2 e2 n2 fP2 fT2, n2 ≤ 9 ∧ FA p2 e2 n2 G ∧ AP fP2 p2 n2 ∧ AT fT2 e2 n2 ∧ fX0_findFor_L35 N (fun fN_34 fO_35 fG_36 fP_37 fT_38 x3_39 => (if x3_39 = (1 : Int64) then (some (fN_34, fO_35, fG_36, fP_37, fT_38)) else ((fX0_append N fN_34 fP_37 fT_38 x3_39 (1 : Int32)).bind (fun r_43 => (some (r_43.1, fO_35, fG_36, r_43.2.1, r_43.2.2)))))) z (nI a) fO fG fP fT (lN R) (lN (pmod (ppow 2 (2 ^ (d - 1))) R)) (nI d) = some (nI n2, fO, fG, fP2, fT2) := by
  intro t
  have hG33 : G < 2 ^ 33 := Nat.lt_of_lt_of_le hG.2 (pow_le_of_le (by omega))
  induction t with
  | zero =>
    intro z d a R p e fP fT hz hd hd1 ha hP hT hDn hR
    -- d = 18: the loop is over
    obtain ⟨z, rfl⟩ : ∃ y, z = y + 1 := ⟨z - 1, by omega⟩
    have hRG : Dv R G := ⟨prE p e a, hDn.2.2.symm⟩
    have hR0 := hRG.pos hG.pos
    have hR33 := dv_lt hRG hG.pos hG33
    obtain ⟨D, hD⟩ := dg_ex hR0
    have hD33 := dg_lt hD hR33
    have ec : (2 : Int32) * nI d = nI (2 * d) := pk_mul 2 d
    rw [fX0_findFor_L35_s, fX0_findFor_B35, if_neg (show ¬ (32 : Int32) ≤ nI d from nI_ge (b := 32) (by omega) (by omega)), sX2_degree hN hR0 (by omega) hD, Option.bind_some, ec, if_pos (nI_lt (by omega) (by omega))]
    by_cases h1 : R = 1
    · subst h1
      refine ⟨p, e, a, fP, fT, ha, ⟨fun i hi => ⟨(hDn.1 i hi).1, (hDn.1 i hi).2.1⟩, hDn.2.1, by have := hDn.2.2; rwa [pmul_1] at this⟩, hP, hT, ?_⟩
      rw [if_pos (show lN 1 = (1 : Int64) from rfl)]
    · obtain ⟨h9, hFA⟩ := fin_FA hDn hG hw ho hR hD (by omega) h1
      refine ⟨fu p a R, fu e a 1, a + 1, _, _, by omega, hFA, hP.push, hT.push, ?_⟩
      rw [if_neg (show ¬ lN R = (1 : Int64) from fun q => h1 ((lEq (b := 1) (by omega) (by decide)).mp q)), show (1 : Int32) = nI 1 from rfl, sX0_append h9, Option.bind_some]
  | succ t ih =>
    intro z d a R p e fP fT hz hd hd1 ha hP hT hDn hR
    obtain ⟨z, rfl⟩ : ∃ y, z = y + 1 := ⟨z - 1, by omega⟩
    have hRG : Dv R G := ⟨prE p e a, hDn.2.2.symm⟩
    have hR0 := hRG.pos hG.pos
    have hR33 := dv_lt hRG hG.pos hG33
    obtain ⟨D, hD⟩ := dg_ex hR0
    have hD33 := dg_lt hD hR33
    have ec : (2 : Int32) * nI d = nI (2 * d) := pk_mul 2 d
    rw [fX0_findFor_L35_s, fX0_findFor_B35, if_neg (show ¬ (32 : Int32) ≤ nI d from nI_ge (b := 32) (by omega) (by omega)), sX2_degree hN hR0 (by omega) hD, Option.bind_some, ec]
    by_cases hlt : D < 2 * d
    · rw [if_pos (nI_lt hlt (by omega))]
      by_cases h1 : R = 1
      · subst h1
        refine ⟨p, e, a, fP, fT, ha, ⟨fun i hi => ⟨(hDn.1 i hi).1, (hDn.1 i hi).2.1⟩, hDn.2.1, by have := hDn.2.2; rwa [pmul_1] at this⟩, hP, hT, ?_⟩
        rw [if_pos (show lN 1 = (1 : Int64) from rfl)]
      · obtain ⟨h9, hFA⟩ := fin_FA hDn hG hw ho hR hD hlt h1
        refine ⟨fu p a R, fu e a 1, a + 1, _, _, by omega, hFA, hP.push, hT.push, ?_⟩
        rw [if_neg (show ¬ lN R = (1 : Int64) from fun q => h1 ((lEq (b := 1) (by omega) (by decide)).mp q)), show (1 : Int32) = nI 1 from rfl, sX0_append h9, Option.bind_some]
    · rw [if_neg (fun q => hlt ((nI_ltI (by omega) (by omega)).mp q))]
      have hD1 : 1 ≤ D := by omega
      have hD2 : 2 ^ 2 ≤ 2 ^ D := pow_le_of_le (by omega)
      have hpw : pmod (pmul (pmod (ppow 2 (2 ^ (d - 1))) R) (pmod (ppow 2 (2 ^ (d - 1))) R)) R = pmod (ppow 2 (2 ^ d)) R := by
        refine pmod_congr hR0 ?_
        obtain ⟨d', rfl⟩ : ∃ d', d = d' + 1 := ⟨d - 1, by omega⟩
        rw [ppow_sq]
        exact (pmod_cg _ _).mul (pmod_cg _ _)
      rw [sX2_product hN hD hD1 (by omega) (pmod_lt hD _) (pmod_lt hD _), Option.bind_some, hpw, show (2 : Int64) = lN 2 from rfl, lX]
      have hpl := pmod_lt hD (ppow 2 (2 ^ d))
      have hx : pmod (ppow 2 (2 ^ d)) R ^^^ 2 < 2 ^ D := Nat.xor_lt_two_pow hpl (by omega)
      have hD61 : 2 ^ D ≤ 2 ^ 32 := pow_le_of_le (by omega)
      obtain ⟨C, eC, C0, _, cd1, cd2, cd3⟩ := sX2_gcd (N := N) (p := R) (q := pmod (ppow 2 (2 ^ d)) R ^^^ 2) hN (by omega) (by omega) (Or.inl hR0)
      rw [eC, Option.bind_some]
      have hcgX : Cg R (pmod (ppow 2 (2 ^ d)) R ^^^ 2) (ppow 2 (2 ^ d) ^^^ 2) := (pmod_cg _ _).xor Cg.rfl'
      have hCX : ∀ h, Dv h C ↔ Dv h R ∧ Dv h (ppow 2 (2 ^ d) ^^^ 2) := fun h => ⟨fun q => ⟨q.trans cd1, (hcgX.symm.low (q.trans cd1)).dv (q.trans cd2)⟩, fun q => cd3 h q.1 ((hcgX.low q.1).dv q.2)⟩
      have hdeg : ∀ q, Irr q → Dv q C → Dg q d := by
        intro q hq hqC
        obtain ⟨q1, q2⟩ := (hCX q).mp hqC
        obtain ⟨k, hk⟩ := dg_ex hq.pos
        have hge := hR q hq q1
        have hdk : d ≤ k := by
          rcases Nat.lt_or_ge k d with y | y
          · have : 2 ^ (k + 1) ≤ 2 ^ d := pow_le_of_le y
            have := hk.2; omega
          · exact y
        rcases Nat.eq_or_lt_of_le hdk with y | y
        · rw [y]; exact hk
        · exact absurd q2 (ddf_hi hq hk hd1 y)
      have hsq : ∀ q, Irr q → ¬ Dv (pmul q q) C := fun q hq h => ddf_sq hq hd1 ((hCX _).mp h).2
      have hconv : ∀ q, Irr q → Dv q R → Dg q d → Dv q C := fun q hq h1 h2 => (hCX q).mpr ⟨h1, ddf_eq hq h2⟩
      have hnext : ∀ q k, Irr q → Dg q k → 2 ^ d ≤ q → ¬ Dg q d → 2 ^ (d + 1) ≤ q := by
        intro q k hq hk h1 h2
        rcases Nat.lt_or_ge q (2 ^ (d + 1)) with y | y
        · exact absurd ⟨h1, y⟩ h2
        · exact y
      by_cases hC1 : C = 1
      · subst hC1
        rw [if_pos (show lN 1 = (1 : Int64) from rfl), nI_1]
        have := ih z (d + 1) a R p e fP fT (by omega) (by omega) (by omega) ha hP hT ⟨fun i hi => ⟨(hDn.1 i hi).1, (hDn.1 i hi).2.1, Nat.lt_of_lt_of_le (hDn.1 i hi).2.2 (pow_le_of_le (by omega))⟩, hDn.2.1, hDn.2.2⟩ (fun q hq hqR => by
          obtain ⟨k, hk⟩ := dg_ex hq.pos
          refine hnext q k hq hk (hR q hq hqR) (fun y => ?_)
          have := (hconv q hq hqR y).eq1; have := hq.1; omega)
        exact this
      · have hC33 : C < 2 ^ 33 := dv_lt cd1 hR0 hR33
        have hCn1 : ¬ lN C = (1 : Int64) := fun q => hC1 ((lEq (b := 1) (by omega) (by decide)).mp q)
        rw [if_neg hCn1]
        obtain ⟨DC, hDC⟩ := dg_ex C0
        have hDC33 := dg_lt hDC hC33
        have hDC1 : 1 ≤ DC := by
          rcases Nat.eq_zero_or_pos DC with rfl | y
          · have := hDC.2; simp at this; omega
          · exact y
        have hcap := cap9 (b := a) hDn hG hw ho cd1 C0 hsq hdeg
        have ha9 : a < 9 := by
          have := hcap (fun _ => C) 1 (pmul_1l C) (fun j hj => by show 2 ≤ C; omega)
          omega
        rw [show (0 : Int32) = nI 0 from rfl, sX0_append ha9, Option.bind_some]
        obtain ⟨p2, e2, n2, fP2, fT2, r1, r2, r3, r4, r5, r6, r7⟩ := sX0_split (N := N) hN hDC hDC1 (by omega) hd1 (by omega) hsq hdeg hcap (hP.push (v := C)) (hT.push (v := 0)) (fu_s _ _ _) (fu_s _ _ _)
        rw [r7, Option.bind_some]
        have hn2 := hcap p2 n2 r4 (fun j hj => (r5 j hj).1)
        have hn21 : 1 ≤ n2 := by
          rcases Nat.eq_zero_or_pos n2 with y | y
          · rw [y] at r4; exact absurd r4.symm hC1
          · exact y
        obtain ⟨p3, fP3, s1, s2, s3, s4, s5, s6⟩ := sX0_sort (N := N) hN hn2 hn21 r2 (fun j hj => ⟨r5 j hj, dv_lt (by rw [← r4]; exact pr_dv n2 hj) C0 (by omega)⟩) r4
        rw [s6, Option.bind_some]
        have hdv3 : ∀ j, j < n2 → Dv (p3 (a + j)) C := fun j hj => by rw [← s4]; exact pr_dv n2 hj
        have hne3 : ∀ i j, i < j → j < n2 → p3 (a + i) ≠ p3 (a + j) := by
          intro i j hij hj e
          have h1 := pr_two (p := p3) (a := a) hij n2 hj
          rw [s4, ← e] at h1
          exact hsq _ (s3 i (by omega)).1 h1
        obtain ⟨e4, R4, fT4, t1, t2, t3, t4, t5⟩ := sX0_wf6 (N := N) (a := a) (n := n2) (R0 := R) hN hn2 s2 s3 hne3 (fun j hj => (hdv3 j hj).trans cd1) hR0 hR33 n2 N 0 R e2 fT2 (by have : 2 ^ 36 ≤ N := hN; omega) (by omega) r3 (pmul_1l R) (fun j hj => by omega) (fun j _ hj => r6 j hj)
        have t5' : fX0_withoutFactorsFrom N (nI (a + n2)) fP3 fT2 (nI a) (lN R) = some (lN R4, fT4) := by unfold fX0_withoutFactorsFrom; exact t5
        rw [t5', Option.bind_some]
        have hR4R : Dv R4 R := ⟨_, t3.symm⟩
        have hR40 := hR4R.pos hR0
        obtain ⟨D4, hD4⟩ := dg_ex hR40
        have hD433 := dg_lt hD4 (dv_lt hR4R hR0 hR33)
        rw [sX2_remainder hN (show pmod (ppow 2 (2 ^ d)) R < 2 ^ 62 by omega) hD4 (by omega), Option.bind_some, nI_1]
        have epw : pmod (pmod (ppow 2 (2 ^ d)) R) R4 = pmod (ppow 2 (2 ^ (d + 1 - 1))) R4 := by
          rw [show d + 1 - 1 = d by omega]
          exact pmod_congr hR40 ((pmod_cg _ _).low hR4R)
        rw [epw]
        have hp3 : ∀ j, j < a → p3 j = p j := fun j hj => by rw [s1 j hj, (r1 j hj).1, fu_n (by omega)]
        have he4 : ∀ j, j < a → e4 j = e j := fun j hj => by rw [t1 j hj, (r1 j hj).2, fu_n (by omega)]
        have hDn4 : Dn p3 e4 (a + n2) (d + 1) R4 G := by
          refine ⟨fun i hi => ?_, fun i j hij hj => ?_, ?_⟩
          · by_cases hia : i < a
            · rw [hp3 i hia, he4 i hia]
              exact ⟨(hDn.1 i hia).1, (hDn.1 i hia).2.1, Nat.lt_of_lt_of_le (hDn.1 i hia).2.2 (pow_le_of_le (by omega))⟩
            · obtain ⟨j, rfl⟩ : ∃ j, i = a + j := ⟨i - a, by omega⟩
              exact ⟨(s3 j (by omega)).1, (t4 j (by omega)).2, (hdeg _ (s3 j (by omega)).1 (hdv3 j (by omega))).2⟩
          · by_cases hja : j < a
            · rw [hp3 i (by omega), hp3 j hja]; exact hDn.2.1 i j hij hja
            · obtain ⟨j, rfl⟩ : ∃ y, j = a + y := ⟨j - a, by omega⟩
              have hb := (hdeg _ (s3 j (by omega)).1 (hdv3 j (by omega))).1
              by_cases hia : i < a
              · rw [hp3 i hia]; have := (hDn.1 i hia).2.2; omega
              · obtain ⟨i, rfl⟩ : ∃ y, i = a + y := ⟨i - a, by omega⟩
                have h1 := s5 i j (by omega) (by omega)
                have h2 := hne3 i j (by omega) (by omega)
                omega
          · rw [prE_app (p := p) (e := e) (p2 := p3) (e2 := e4) (a := a) (n := n2) (fun j hj => ⟨hp3 j hj, he4 j hj⟩) n2 (Nat.le_refl _), pmul_assoc, t3]
            exact hDn.2.2
        exact ih z (d + 1) (a + n2) R4 p3 e4 fP3 fT4 (by omega) (by omega) (by omega) hn2 s2 t2 hDn4 (fun q hq hqR => by
          obtain ⟨k, hk⟩ := dg_ex hq.pos
          refine hnext q k hq hk (hR q hq (hqR.trans hR4R)) (fun y => ?_)
          have h1 := hconv q hq (hqR.trans hR4R) y
          rw [← s4] at h1
          obtain ⟨j, j1, j2⟩ := pr_irr hq n2 h1
          have := hq.eq (s3 j j1).1 j2
          rw [this] at hqR
          exact (t4 j j1).1 hqR)
/-- what a Factors of the class holds, once asked for G -/
def FacOk (fN : Int32) (fP : Nat → Int64) (fT : Nat → Int32) (G : Nat) : Prop := ∃ p e n, n ≤ 9 ∧ FA p e n G ∧ fN = nI n ∧ AP fP p n ∧ AT fT e n
theorem sX0_findFor {N G w : Nat} {fN : Int32} {fO fG : Int64} {fP : Nat → Int64} {fT : Nat → Int32} (hN : Big N) (hG : Dg G w) (hw3 : 2 ≤ w) (hw : w ≤ 32) (ho : G % 2 = 1) (hk : fG = lN G → FacOk fN fP fT G) : ∃ fN' fO' fP' fT', FacOk fN' fP' fT' G ∧ ((fG = lN G ∧ fN' = fN ∧ fO' = fO ∧ fP' = fP ∧ fT' = fT) ∨ fO' = 0) ∧ fX0_findFor N fN fO fG fP fT (lN G) = some (fN', fO', lN G, fP', fT') := by
  unfold fX0_findFor
  by_cases h : fG = lN G
  · exact ⟨fN, fO, fP, fT, hk h, Or.inl ⟨h, rfl, rfl, rfl, rfl⟩, by rw [if_pos h, h]⟩
  · rw [if_neg h]
    have h2w : 2 ^ 2 ≤ 2 ^ w := pow_le_of_le hw3
    have hN' : 2 ^ 36 ≤ N := hN
    have e2 : (2 : Int64) = lN (pmod (ppow 2 (2 ^ (1 - 1))) G) := by
      have : pmod (ppow 2 (2 ^ (1 - 1))) G = 2 := by
        refine pmod_eq hG (by omega) (Cg.of_eq ?_)
        show 2 = ppow 2 1
        rw [ppow_1]
      rw [this]; rfl
    rw [e2]
    obtain ⟨p2, e2, n2, fP2, fT2, r1, r2, r3, r4, r5⟩ := sX0_findFor_L (N := N) (fO := 0) (fG := lN G) hN hG hw ho 17 N 1 0 G (fun _ => 0) (fun _ => 0) fP fT (by omega) (by omega) (Nat.le_refl _) (by omega) (fun i hi => by omega) (fun i hi => by omega) ⟨fun i hi => by omega, fun i j _ hj => by omega, pmul_1l G⟩ (fun q hq hqG => by have := hq.1; simpa using this)
    exact ⟨nI n2, 0, fP2, fT2, ⟨p2, e2, n2, r1, r2, rfl, r3, r4⟩, Or.inr rfl, r5⟩

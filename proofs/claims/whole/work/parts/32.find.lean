/-! ===== sorting, multiplicities, and the class's factors of G ===== -/
def sw (p : Nat → Nat) (i : Nat) : Nat → Nat := fu (fu p i (p (i + 1))) (i + 1) (p i)
theorem sw_l (p : Nat → Nat) (i : Nat) : sw p i i = p (i + 1) := by unfold sw; rw [fu_n (by omega), fu_s]
theorem sw_r (p : Nat → Nat) (i : Nat) : sw p i (i + 1) = p i := by unfold sw; rw [fu_s]
theorem sw_n {p : Nat → Nat} {i j : Nat} (h1 : j ≠ i) (h2 : j ≠ i + 1) : sw p i j = p j := by unfold sw; rw [fu_n h2, fu_n h1]
theorem pr_sw {p : Nat → Nat} {a i : Nat} : ∀ n, i + 1 < n → pr (sw p (a + i)) a n = pr p a n
  | 0, h => by omega
  | n + 1, h => by
    show pmul (pr (sw p (a + i)) a n) (sw p (a + i) (a + n)) = pmul (pr p a n) (p (a + n))
    by_cases e : i + 1 = n
    · subst e
      show pmul (pmul (pr (sw p (a + i)) a i) (sw p (a + i) (a + i))) (sw p (a + i) (a + (i + 1))) = pmul (pmul (pr p a i) (p (a + i))) (p (a + (i + 1)))
      rw [pr_congr (p := sw p (a + i)) (q := p) i (fun j hj => sw_n (by omega) (by omega)), sw_l, show a + (i + 1) = a + i + 1 by omega, sw_r, pmul_assoc, pmul_assoc, pmul_comm (p (a + i + 1))]
    · rw [pr_sw n (by omega), sw_n (by omega) (by omega)]
/-- one more put in its place: below a + i all is sorted -/
theorem sX0_sort14 {N a n i : Nat} {C : Nat} {k : (Nat → Int64) → Option (Nat → Int64)} (hs : a + n ≤ 9) (hi : i < n) : ∀ (t z : Nat) (p : Nat → Nat) (fP : Nat → Int64), t < z → t ≤ i → AP fP p (a + n) → (∀ j, j < n → Irr (p (a + j)) ∧ p (a + j) < 2 ^ 40) → pr p a n = C → (∀ x y, x < y → y ≤ i → x ≠ t → y ≠ t → p (a + x) ≤ p (a + y)) → (∀ y, t < y → y ≤ i → p (a + t) ≤ p (a + y)) →
    ∃ p2 fP2, (∀ j, j < a → p2 j = p j) ∧ AP fP2 p2 (a + n) ∧ (∀ j, j < n → Irr (p2 (a + j)) ∧ p2 (a + j) < 2 ^ 40) ∧ pr p2 a n = C ∧ (∀ x y, x < y → y ≤ i → p2 (a + x) ≤ p2 (a + y)) ∧ fX0_sort_L14 N (nI (a + n)) (nI a) (nI (a + i)) k z fP (nI (a + t)) = k fP2 := by
  intro t
  induction t with
  | zero =>
    intro z p fP hz ht hP hI hpr h1 h2
    obtain ⟨z, rfl⟩ : ∃ y, z = y + 1 := ⟨z - 1, by omega⟩
    refine ⟨p, fP, fun _ _ => rfl, hP, hI, hpr, fun x y hx hy => ?_, ?_⟩
    · by_cases e : x = 0
      · subst e; exact h2 y hx hy
      · exact h1 x y hx hy e (by omega)
    · rw [fX0_sort_L14_s, fX0_sort_B14, if_pos (show nI (a + 0) ≤ nI a from nI_le (Nat.le_refl a) (by omega))]
  | succ t ih =>
    intro z p fP hz ht hP hI hpr h1 h2
    obtain ⟨z, rfl⟩ : ∃ y, z = y + 1 := ⟨z - 1, by omega⟩
    have e1 : nI (a + (t + 1)) - (1 : Int32) = nI (a + t) := by rw [show (1 : Int32) = nI 1 from rfl, nSub (by omega)]; congr 1
    have hob1 : ¬ OOB (nI (a + t)) 9 := oob_nI (by omega) (by decide)
    have hob2 : ¬ OOB (nI (a + (t + 1))) 9 := oob_nI (by omega) (by decide)
    have v1 := hP (a + t) (by omega)
    have v2 := hP (a + (t + 1)) (by omega)
    have b1 := (hI t (by omega)).2
    have b2 := (hI (t + 1) (by omega)).2
    rw [fX0_sort_L14_s, fX0_sort_B14, if_neg (nI_ge (by omega) (by omega)), e1]
    simp only [if_neg hob1, if_neg hob2, nCl (show a + t < 2 ^ 31 by omega), nCl (show a + (t + 1) < 2 ^ 31 by omega), v1, v2]
    by_cases hc : p (a + t) ≤ p (a + (t + 1))
    · rw [if_pos ((pk_lLE (by omega) (by omega)).mpr hc)]
      refine ⟨p, fP, fun _ _ => rfl, hP, hI, hpr, fun x y hx hy => ?_, rfl⟩
      by_cases ex : x = t + 1
      · subst ex; exact h2 y hx hy
      · by_cases ey : y = t + 1
        · subst ey
          by_cases ext : x = t
          · subst ext; exact hc
          · exact Nat.le_trans (h1 x t (by omega) (by omega) (by omega) (by omega)) hc
        · exact h1 x y hx hy ex ey
    · rw [if_neg (fun z => hc ((pk_lLE (by omega) (by omega)).mp z)), nJn, e1]
      have hP2 : AP (vp_updL (vp_updL fP (a + t) (lN (p (a + (t + 1))))) (a + (t + 1)) (lN (p (a + t)))) (sw p (a + t)) (a + n) := by
        unfold sw
        exact (hP.put (i := a + t) (v := p (a + t + 1))).put (i := a + t + 1) (v := p (a + t))
      have sn : ∀ j, j ≠ t → j ≠ t + 1 → sw p (a + t) (a + j) = p (a + j) := fun j h1 h2 => sw_n (by omega) (by omega)
      have sl : sw p (a + t) (a + t) = p (a + (t + 1)) := sw_l p (a + t)
      have sr : sw p (a + t) (a + (t + 1)) = p (a + t) := sw_r p (a + t)
      obtain ⟨p2, fP2, q1, q2, q3, q4, q5, q6⟩ := ih z (sw p (a + t)) _ (by omega) (by omega) hP2 (fun j hj => by
        by_cases ej : j = t
        · subst ej; rw [sl]; exact hI (j + 1) (by omega)
        · by_cases ej2 : j = t + 1
          · subst ej2; rw [sr]; exact hI t (by omega)
          · rw [sn j ej ej2]; exact hI j hj) (by rw [pr_sw n (by omega)]; exact hpr) (fun x y hx hy ex ey => by
        by_cases ex2 : x = t + 1
        · subst ex2
          rw [sr, sn y (by omega) (by omega)]
          exact h1 t y (by omega) hy (by omega) (by omega)
        · by_cases ey2 : y = t + 1
          · subst ey2
            rw [sr, sn x ex ex2]
            exact h1 x t (by omega) (by omega) ex2 (by omega)
          · rw [sn x ex ex2, sn y ey ey2]
            exact h1 x y hx hy ex2 ey2) (fun y hy1 hy2 => by
        rw [sl]
        by_cases ey2 : y = t + 1
        · subst ey2; rw [sr]; omega
        · rw [sn y (by omega) ey2]; exact h2 y (by omega) hy2)
      refine ⟨p2, fP2, fun j hj => (q1 j hj).trans (sw_n (by omega) (by omega)), q2, q3, q4, q5, q6⟩
theorem sX0_sort4 {N a n C : Nat} (hN : Big N) (hs : a + n ≤ 9) : ∀ (t z i : Nat) (p : Nat → Nat) (fP : Nat → Int64), t < z → i + t = n → 1 ≤ i → AP fP p (a + n) → (∀ j, j < n → Irr (p (a + j)) ∧ p (a + j) < 2 ^ 40) → pr p a n = C → (∀ x y, x < y → y < i → p (a + x) ≤ p (a + y)) →
    ∃ p2 fP2, (∀ j, j < a → p2 j = p j) ∧ AP fP2 p2 (a + n) ∧ (∀ j, j < n → Irr (p2 (a + j)) ∧ p2 (a + j) < 2 ^ 40) ∧ pr p2 a n = C ∧ (∀ x y, x < y → y < n → p2 (a + x) ≤ p2 (a + y)) ∧ fX0_sort_L4 N (nI (a + n)) (nI a) (fun fP_17 => (some fP_17)) z fP (nI (a + i)) = some fP2 := by
  intro t
  have hN' : 2 ^ 36 ≤ N := hN
  induction t with
  | zero =>
    intro z i p fP hz hi h1 hP hI hpr hso
    obtain ⟨z, rfl⟩ : ∃ y, z = y + 1 := ⟨z - 1, by omega⟩
    have : i = n := by omega
    subst this
    exact ⟨p, fP, fun _ _ => rfl, hP, hI, hpr, hso, by rw [fX0_sort_L4_s, fX0_sort_B4, if_pos (nI_le (Nat.le_refl _) (by omega))]⟩
  | succ t ih =>
    intro z i p fP hz hi h1 hP hI hpr hso
    obtain ⟨z, rfl⟩ : ∃ y, z = y + 1 := ⟨z - 1, by omega⟩
    obtain ⟨p2, fP2, q1, q2, q3, q4, q5, q6⟩ := sX0_sort14 (N := N) (a := a) (n := n) (i := i) (C := C) (k := fun fP_14 => fX0_sort_L4 N (nI (a + n)) (nI a) (fun fP_17 => (some fP_17)) z fP_14 (nI (a + i + 1))) hs (by omega) i N p fP (by omega) (Nat.le_refl _) hP hI hpr (fun x y hx hy ex ey => hso x y hx (by omega)) (fun y h1 h2 => by omega)
    obtain ⟨p3, fP3, r1, r2, r3, r4, r5, r6⟩ := ih z (i + 1) p2 fP2 (by omega) (by omega) (by omega) q2 q3 q4 (fun x y hx hy => q5 x y hx (by omega))
    refine ⟨p3, fP3, fun j hj => (r1 j hj).trans (q1 j hj), r2, r3, r4, r5, ?_⟩
    rw [fX0_sort_L4_s, fX0_sort_B4, if_neg (nI_ge (by omega) (by omega)), nI_1]
    exact q6.trans r6
theorem sX0_sort {N a n C : Nat} {p : Nat → Nat} {fP : Nat → Int64} (hN : Big N) (hs : a + n ≤ 9) (hn : 1 ≤ n) (hP : AP fP p (a + n)) (hI : ∀ j, j < n → Irr (p (a + j)) ∧ p (a + j) < 2 ^ 40) (hpr : pr p a n = C) :
    ∃ p2 fP2, (∀ j, j < a → p2 j = p j) ∧ AP fP2 p2 (a + n) ∧ (∀ j, j < n → Irr (p2 (a + j)) ∧ p2 (a + j) < 2 ^ 40) ∧ pr p2 a n = C ∧ (∀ x y, x < y → y < n → p2 (a + x) ≤ p2 (a + y)) ∧ fX0_sort N (nI (a + n)) fP (nI a) = some fP2 := by
  unfold fX0_sort
  have hN' : 2 ^ 36 ≤ N := hN
  rw [nI_1]
  exact sX0_sort4 hN hs (n - 1) N 1 p fP (by omega) (by omega) (Nat.le_refl _) hP hI hpr (fun x y h1 h2 => by omega)
/-- degrees of powers -/
theorem Dg.pow {q d : Nat} (h : Dg q d) : ∀ n, Dg (ppow q n) (d * n)
  | 0 => ⟨by simp [ppow], by simp [ppow]⟩
  | n + 1 => (h.pow n).mul h
/-- how often one divides -/
theorem sX0_wf15 {N s i q d : Nat} {fP : Nat → Int64} {k : (Nat → Int32) → Int64 → Option (Int64 × (Nat → Int32))} (hN : Big N) (hs : s ≤ 9) (hi : i < s) (hfp : fP i = lN q) (hq : Irr q) (hd : Dg q d) (hd1 : 1 ≤ d) (hsm : d ≤ 61) :
    ∀ (t z m R : Nat) (fT : Nat → Int32), t < z → R < 2 ^ t → 0 < R → m + t ≤ 34 → (∀ D, Dg R D → D + m ≤ 32) → fT i = nI m → ∃ c R2, R = pmul (ppow q c) R2 ∧ ¬ Dv q R2 ∧ 0 < R2 ∧ ∃ fT2, (∀ j, j ≠ i → fT2 j = fT j) ∧ fT2 i = nI (m + c) ∧ fX0_withoutFactorsFrom_L15 N (nI s) fP (nI i) k z fT (lN R) = k fT2 (lN R2) := by
  intro t
  have hob : ¬ OOB (nI i) 9 := oob_nI (by omega) (by decide)
  induction t with
  | zero => intro z m R fT hz hR hR0; simp at hR; omega
  | succ t ih =>
    intro z m R fT hz hR hR0 hm hDm hfm
    obtain ⟨z, rfl⟩ : ∃ y, z = y + 1 := ⟨z - 1, by omega⟩
    have hR34 : R < 2 ^ 34 := Nat.lt_of_lt_of_le hR (pow_le_of_le (by omega))
    obtain ⟨DR, hDR⟩ := dg_ex hR0
    have hd34 : Dv q R → d ≤ DR := by
      intro h
      have h1 := h.le hR0 hd
      rcases Nat.lt_or_ge DR d with z | z
      · have : 2 ^ (DR + 1) ≤ 2 ^ d := pow_le_of_le z
        have := hDR.2; omega
      · exact z
    rw [fX0_withoutFactorsFrom_L15_s, fX0_withoutFactorsFrom_B15]
    simp only [if_neg hob, nCl (show i < 2 ^ 31 by omega), hfm, hfp]
    by_cases hm32 : 32 ≤ m
    · have hD0 := hDm DR hDR
      refine ⟨0, R, (pmul_1l R).symm, fun h => by have := hd34 h; omega, hR0, fT, fun _ _ => rfl, hfm, ?_⟩
      rw [if_pos (show (32 : Int32) ≤ nI m from nI_le (a := 32) hm32 (by omega))]
    · rw [if_neg (show ¬ (32 : Int32) ≤ nI m from nI_ge (b := 32) (by omega) (by decide))]
      rw [sX2_remainder hN (show R < 2 ^ 62 by omega) hd hsm, Option.bind_some]
      by_cases hdv : Dv q R
      · have hm0 := (pmod_dv hq.pos).mpr hdv
        rw [hm0, if_pos (show lN 0 = (0 : Int64) from rfl)]
        obtain ⟨R1, hR1, e1⟩ := sX2_quotient (N := N) hN hR0 (show R < 2 ^ 62 by omega) hd hsm
        rw [hm0, Nat.xor_zero] at hR1
        rw [e1, Option.bind_some, nI_1]
        have hR10 : 0 < R1 := by
          rcases Nat.eq_zero_or_pos R1 with rfl | z
          · rw [pmul_0l] at hR1; omega
          · exact z
        obtain ⟨D1, hD1⟩ := dg_ex hR10
        have hDD : D1 + d = DR := by
          have := hD1.mul hd
          rw [← hR1] at this
          exact this.uniq hDR
        have hR1l : R1 < 2 ^ t := by
          have h3 := dg_lt hDR hR
          exact Nat.lt_of_lt_of_le hD1.2 (pow_le_of_le (by omega))
        obtain ⟨c, R2, r1, r2, r3, fT2, r4, r5, r6⟩ := ih z (m + 1) R1 (upd fT i (nI (m + 1))) (by omega) hR1l hR10 (by omega) (fun D hD => by have := hD.uniq hD1; have := hDm DR hDR; omega) pk_us
        refine ⟨c + 1, R2, ?_, r2, r3, fT2, fun j hj => (r4 j hj).trans (pk_un hj), by rw [r5]; congr 1; omega, r6⟩
        rw [hR1, r1]
        show pmul (pmul _ _) _ = pmul (pmul _ _) _
        rw [pmul_assoc, pmul_assoc, pmul_comm R2]
      · have hm0 : ¬ pmod R q = 0 := fun z => hdv ((pmod_dv hq.pos).mp z)
        have hml : pmod R q < 2 ^ 62 := Nat.lt_of_lt_of_le (pmod_lt hd R) (pow_le_of_le (by omega))
        rw [if_neg (fun z => hm0 ((lE0 (by omega)).mp z))]
        exact ⟨0, R, (pmul_1l R).symm, hdv, hR0, fT, fun _ _ => rfl, hfm, rfl⟩
theorem pr_two {p : Nat → Nat} {a i j : Nat} (hij : i < j) : ∀ n, j < n → Dv (pmul (p (a + i)) (p (a + j))) (pr p a n)
  | 0, h => by omega
  | n + 1, h => by
    show Dv _ (pmul (pr p a n) (p (a + n)))
    by_cases e : j = n
    · subst e
      obtain ⟨c, hc⟩ := pr_dv (p := p) (a := a) (j := i) j hij
      exact ⟨c, by rw [hc, pmul_assoc]⟩
    · exact (pr_two hij n (by omega)).mulr _
theorem sX0_wf6 {N a n R0 : Nat} {p : Nat → Nat} {fP : Nat → Int64} (hN : Big N) (hs : a + n ≤ 9) (hP : AP fP p (a + n)) (hI : ∀ j, j < n → Irr (p (a + j)) ∧ p (a + j) < 2 ^ 40) (hne : ∀ i j, i < j → j < n → p (a + i) ≠ p (a + j)) (hdv : ∀ j, j < n → Dv (p (a + j)) R0) (hR0 : 0 < R0) (hR033 : R0 < 2 ^ 33) :
    ∀ (t z m R : Nat) (e : Nat → Nat) (fT : Nat → Int32), t < z → m + t = n → AT fT e (a + n) → pmul (pr (fun x => ppow (p x) (e x)) a m) R = R0 → (∀ j, j < m → ¬ Dv (p (a + j)) R ∧ 1 ≤ e (a + j)) → (∀ j, m ≤ j → j < n → e (a + j) = 0) → ∃ e2 R2 fT2, (∀ j, j < a → e2 j = e j) ∧ AT fT2 e2 (a + n) ∧ pmul (pr (fun x => ppow (p x) (e2 x)) a n) R2 = R0 ∧ (∀ j, j < n → ¬ Dv (p (a + j)) R2 ∧ 1 ≤ e2 (a + j)) ∧ fX0_withoutFactorsFrom_L6 N (nI (a + n)) fP (fun fT_19 x4_20 => (some (x4_20, fT_19))) z fT (lN R) (nI (a + m)) = some (lN R2, fT2) := by
  intro t
  have hN' : 2 ^ 36 ≤ N := hN
  induction t with
  | zero =>
    intro z m R e fT hz hm hT hpr h1 h0
    obtain ⟨z, rfl⟩ : ∃ y, z = y + 1 := ⟨z - 1, by omega⟩
    have : m = n := by omega
    subst this
    exact ⟨e, R, fT, fun _ _ => rfl, hT, hpr, h1, by rw [fX0_withoutFactorsFrom_L6_s, fX0_withoutFactorsFrom_B6, if_pos (nI_le (Nat.le_refl _) (by omega))]⟩
  | succ t ih =>
    intro z m R e fT hz hm hT hpr h1 h0
    obtain ⟨z, rfl⟩ : ∃ y, z = y + 1 := ⟨z - 1, by omega⟩
    obtain ⟨hq, hq40⟩ := hI m (by omega)
    obtain ⟨d, hd⟩ := dg_ex hq.pos
    have hd40 := dg_lt hd hq40
    have hd1 := hq.dgpos hd
    have hRd : Dv R R0 := ⟨_, hpr.symm⟩
    have hRpos : 0 < R := hRd.pos hR0
    have hR33 : R < 2 ^ 33 := dv_lt hRd hR0 hR033
    have hqR : Dv (p (a + m)) R := by
      have := hdv m (by omega)
      rw [← hpr] at this
      rcases hq.prime this with z | z
      · obtain ⟨j, j1, j2⟩ := pr_irr hq m z
        have := irr_pow hq (hI j (by omega)).1 _ j2
        exact absurd this.symm (hne j m j1 (by omega))
      · exact z
    obtain ⟨c, R2, r1, r2, r3, fT2, r4, r5, r6⟩ := sX0_wf15 (N := N) (s := a + n) (i := a + m) (k := fun fT_15 x4_16 => fX0_withoutFactorsFrom_L6 N (nI (a + n)) fP (fun fT_19 x4_20 => (some (x4_20, fT_19))) z fT_15 x4_16 (nI (a + m + 1))) hN hs (by omega) (hP (a + m) (by omega)) hq hd hd1 (by omega) 33 N 0 R fT (by omega) hR33 hRpos (by omega) (fun D hD => by have := dg_lt hD hR33; omega) (by rw [hT (a + m) (by omega), h0 m (Nat.le_refl _) (by omega)])
    have hc1 : 1 ≤ c := by
      rcases Nat.eq_zero_or_pos c with rfl | z
      · have e : pmul (ppow (p (a + m)) 0) R2 = R2 := pmul_1l R2
        rw [e] at r1; rw [r1] at hqR; exact absurd hqR r2
      · exact z
    have hR2R : Dv R2 R := ⟨ppow (p (a + m)) c, r1⟩
    have hT2 : AT fT2 (fu e (a + m) c) (a + n) := by
      intro j hj
      by_cases q : j = a + m
      · rw [q, fu_s, r5, Nat.zero_add]
      · rw [fu_n q, r4 j q]; exact hT j hj
    obtain ⟨e2, R3, fT3, s1, s2, s3, s4, s5⟩ := ih z (m + 1) R2 (fu e (a + m) c) fT2 (by omega) (by omega) hT2 (by
      show pmul (pmul (pr (fun x => ppow (p x) (fu e (a + m) c x)) a m) (ppow (p (a + m)) (fu e (a + m) c (a + m)))) R2 = R0
      rw [fu_s, pr_congr (p := fun x => ppow (p x) (fu e (a + m) c x)) (q := fun x => ppow (p x) (e x)) m (fun j hj => by show ppow _ (fu e (a + m) c (a + j)) = _; rw [fu_n (by omega)]), pmul_assoc, ← r1]
      exact hpr) (fun j hj => by
      by_cases q : j = m
      · subst q; rw [fu_s]; exact ⟨r2, hc1⟩
      · rw [fu_n (by omega)]
        obtain ⟨u1, u2⟩ := h1 j (by omega)
        exact ⟨fun z => u1 (z.trans hR2R), u2⟩) (fun j hj1 hj2 => by rw [fu_n (by omega)]; exact h0 j (by omega) hj2)
    refine ⟨e2, R3, fT3, fun j hj => (s1 j hj).trans (fu_n (by omega)), s2, s3, s4, ?_⟩
    rw [fX0_withoutFactorsFrom_L6_s, fX0_withoutFactorsFrom_B6, if_neg (nI_ge (by omega) (by omega)), nI_1]
    exact r6.trans s5

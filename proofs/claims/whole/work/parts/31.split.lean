/-! ===== splitting the common part of one degree by traces ===== -/
def AP (fP : Nat → Int64) (p : Nat → Nat) (n : Nat) : Prop := ∀ i, i < n → fP i = lN (p i)
def AT (fT : Nat → Int32) (e : Nat → Nat) (n : Nat) : Prop := ∀ i, i < n → fT i = nI (e i)
theorem AP.put {fP : Nat → Int64} {p : Nat → Nat} {n i v : Nat} (h : AP fP p n) : AP (vp_updL fP i (lN v)) (fu p i v) n := by
  intro j hj
  by_cases e : j = i
  · rw [e, pk_uLs, fu_s]
  · rw [pk_uLn e, fu_n e]; exact h j hj
theorem AP.push {fP : Nat → Int64} {p : Nat → Nat} {n v : Nat} (h : AP fP p n) : AP (vp_updL fP n (lN v)) (fu p n v) (n + 1) := by
  intro j hj
  by_cases e : j = n
  · rw [e, pk_uLs, fu_s]
  · rw [pk_uLn e, fu_n e]; exact h j (by omega)
theorem AT.push {fT : Nat → Int32} {e : Nat → Nat} {n v : Nat} (h : AT fT e n) : AT (upd fT n (nI v)) (fu e n v) (n + 1) := by
  intro j hj
  by_cases q : j = n
  · rw [q, pk_us, fu_s]
  · rw [pk_un q, fu_n q]; exact h j (by omega)
theorem dv_lt {a C m : Nat} (h : Dv a C) (hC : 0 < C) (hm : C < 2 ^ m) : a < 2 ^ m := by
  obtain ⟨k, hk⟩ := dg_ex (h.pos hC)
  have := h.le hC hk
  have hkm : k < m := by
    rcases Nat.lt_or_ge k m with q | q
    · exact q
    · have := pow_le_of_le q; omega
  exact Nat.lt_of_lt_of_le hk.2 (pow_le_of_le hkm)
theorem sX0_append {N s v e : Nat} {fP : Nat → Int64} {fT : Nat → Int32} (hs : s < 9) : fX0_append N (nI s) fP fT (lN v) (nI e) = some (nI (s + 1), vp_updL fP s (lN v), upd fT s (nI e)) := by
  unfold fX0_append
  have hob : ¬ OOB (nI s) 9 := oob_nI hs (by decide)
  rw [if_neg (show ¬ (9 : Int32) ≤ nI s from nI_ge (b := 9) hs (by decide)), if_neg hob, if_neg hob, nCl (by omega), nI_1]
theorem sX0_splitOne {N s i T : Nat} {fP : Nat → Int64} {fT : Nat → Int32} {p e : Nat → Nat} (hN : Big N) (hs : s ≤ 9) (hi : i < s) (hP : AP fP p s) (hT : AT fT e s) (hA2 : 2 ≤ p i) (hA : p i < 2 ^ 40) (hTl : T < 2 ^ 40) :
    ∃ g, (∀ h, Dv h g ↔ Dv h (p i) ∧ Dv h T) ∧ 0 < g ∧ (((g = 1 ∨ g = p i) ∧ fX0_splitOne N (nI s) fP fT (nI i) (lN T) = some (nI s, fP, fT)) ∨ (g ≠ 1 ∧ g ≠ p i ∧ ∃ q, p i = pmul q g ∧ (s < 9 → ∃ fP2 fT2, AP fP2 (fu (fu p i g) s q) (s + 1) ∧ AT fT2 (fu e s 0) (s + 1) ∧ fX0_splitOne N (nI s) fP fT (nI i) (lN T) = some (nI (s + 1), fP2, fT2)))) := by
  have hA0 : 0 < p i := by omega
  obtain ⟨l, hl⟩ := dg_ex hA0
  have hl40 := dg_lt hl hA
  have hml : pmod T (p i) < 2 ^ 40 := Nat.lt_of_lt_of_le (pmod_lt hl T) (pow_le_of_le (by omega))
  obtain ⟨g, eg, g0, g61, gd1, gd2, gd3⟩ := sX2_gcd (N := N) (p := p i) (q := pmod T (p i)) hN (by omega) (by omega) (Or.inl hA0)
  have hob : ¬ OOB (nI i) 9 := oob_nI (by omega) (by decide)
  have hcg := pmod_cg T (p i)
  have hg40 : g < 2 ^ 40 := dv_lt gd1 hA0 hA
  refine ⟨g, fun h => ⟨fun a => ⟨a.trans gd1, (hcg.symm.low (a.trans gd1)).dv (a.trans gd2)⟩, fun a => gd3 h a.1 ((hcg.low a.1).dv a.2)⟩, g0, ?_⟩
  unfold fX0_splitOne
  simp only [if_neg hob, nCl (show i < 2 ^ 31 by omega), hP i hi, sX2_remainder hN (show T < 2 ^ 62 by omega) hl (by omega), Option.bind_some, eg]
  by_cases h1 : g = 1
  · left; exact ⟨Or.inl h1, by rw [if_pos (by rw [h1]; rfl)]⟩
  · have h1' : ¬ lN g = 1 := fun z => h1 ((lEq (b := 1) (by omega) (by decide)).mp z)
    rw [if_neg h1']
    by_cases h2 : g = p i
    · left; exact ⟨Or.inr h2, by rw [if_pos (by rw [h2])]⟩
    · have h2' : ¬ lN g = lN (p i) := fun z => h2 ((lEq (by omega) (by omega)).mp z)
      right
      obtain ⟨lg, hlg⟩ := dg_ex g0
      have hlg40 := dg_lt hlg hg40
      obtain ⟨q, hq, eq⟩ := sX2_quotient (N := N) hN hA0 (show p i < 2 ^ 62 by omega) hlg (by omega)
      have hm0 : pmod (p i) g = 0 := (pmod_dv g0).mpr gd1
      rw [hm0, Nat.xor_zero] at hq
      refine ⟨h1, h2, q, hq, fun hs9 => ⟨_, _, (hP.put (i := i) (v := g)).push (v := q), hT.push (v := 0), ?_⟩⟩
      rw [if_neg h2', eq, Option.bind_some, show (0 : Int32) = nI 0 from rfl, sX0_append hs9, Option.bind_some]
theorem sX0_split62 {N a b T C : Nat} {x2 x6 : Int64} {x4 x5 x8 : Int32} {k : Int32 → (Nat → Int64) → (Nat → Int32) → Option (Int32 × (Nat → Int64) × (Nat → Int32))} {Q Q' : Nat → Prop} (hN : Big N) (hC0 : 0 < C) (hC : C < 2 ^ 40) (hTl : T < 2 ^ 40)
    (hcap : ∀ p n, pr p a n = C → (∀ j, j < n → 2 ≤ p (a + j)) → a + n ≤ 9)
    (hstep : ∀ A g, Dv A C → 2 ≤ A → Q A → (∀ h, Dv h g ↔ Dv h A ∧ Dv h T) → (g = 1 ∨ g = A → Q' A) ∧ ∀ q, A = pmul q g → g ≠ 1 → g ≠ A → Q' g ∧ Q' q) :
    ∀ (t z i n : Nat) (p e : Nat → Nat) (fP : Nat → Int64) (fT : Nat → Int32), t < z → i + t = b → a ≤ i → b ≤ a + n → AP fP p (a + n) → AT fT e (a + n) → (∀ j, j < n → 2 ≤ p (a + j)) → pr p a n = C → (∀ j, j < n → a + j < i ∨ b ≤ a + j → Q' (p (a + j))) → (∀ j, j < n → i ≤ a + j → a + j < b → Q (p (a + j))) → (∀ j, j < n → e (a + j) = 0) →
    ∃ p2 e2 n2 fP2 fT2, (∀ j, j < a → p2 j = p j ∧ e2 j = e j) ∧ AP fP2 p2 (a + n2) ∧ AT fT2 e2 (a + n2) ∧ (∀ j, j < n2 → 2 ≤ p2 (a + j)) ∧ pr p2 a n2 = C ∧ (∀ j, j < n2 → Q' (p2 (a + j))) ∧ (∀ j, j < n2 → e2 (a + j) = 0) ∧ fX0_split_L62 N (nI a) x2 x4 x5 x6 x8 (lN T) (nI b) k z (nI (a + n)) fP fT (nI i) = k (nI (a + n2)) fP2 fT2 := by
  intro t
  induction t with
  | zero =>
    intro z i n p e fP fT hz hi hai hbn hP hT h2 hpr hq' hq he
    obtain ⟨z, rfl⟩ : ∃ y, z = y + 1 := ⟨z - 1, by omega⟩
    have : i = b := by omega
    subst this
    have hcap1 := hcap p n hpr h2
    refine ⟨p, e, n, fP, fT, fun j _ => ⟨rfl, rfl⟩, hP, hT, h2, hpr, fun j hj => hq' j hj (by omega), he, ?_⟩
    rw [fX0_split_L62_s, fX0_split_B62, if_pos (nI_le (Nat.le_refl _) (by omega))]
  | succ t ih =>
    intro z i n p e fP fT hz hi hai hbn hP hT h2 hpr hq' hq he
    obtain ⟨z, rfl⟩ : ∃ y, z = y + 1 := ⟨z - 1, by omega⟩
    have hcap1 := hcap p n hpr h2
    obtain ⟨m, rfl⟩ : ∃ m, i = a + m := ⟨i - a, by omega⟩
    have hm : m < n := by omega
    have hdv : Dv (p (a + m)) C := by rw [← hpr]; exact pr_dv n hm
    have hlt : p (a + m) < 2 ^ 40 := dv_lt hdv hC0 hC
    have hstp := fun g => hstep (p (a + m)) g hdv (h2 m hm) (hq m hm (Nat.le_refl _) (by omega))
    obtain ⟨g, hg, g0, hr⟩ := sX0_splitOne (N := N) (T := T) hN hcap1 (show a + m < a + n by omega) hP hT (h2 m hm) hlt hTl
    rw [fX0_split_L62_s, fX0_split_B62, if_neg (nI_ge (by omega) (by omega))]
    rcases hr with ⟨h1, er⟩ | ⟨h1, h1', q, hqe, hr⟩
    · rw [er, Option.bind_some, nI_1]
      have := ih z (a + m + 1) n p e fP fT (by omega) (by omega) (by omega) hbn hP hT h2 hpr (fun j hj hc => by
        by_cases ej : j = m
        · subst ej; exact (hstp g hg).1 h1
        · exact hq' j hj (by omega)) (fun j hj h3 h4 => hq j hj (by omega) h4) he
      exact this
    · obtain ⟨Qg, Qq⟩ := (hstp g hg).2 q hqe h1 h1'
      have hg2 : 2 ≤ g := by omega
      have hq2 : 2 ≤ q := by
        rcases Nat.lt_or_ge q 2 with z | z
        · have : q = 0 ∨ q = 1 := by omega
          rcases this with rfl | rfl
          · rw [pmul_0l] at hqe; have := h2 m hm; omega
          · rw [pmul_1l] at hqe; exact absurd hqe.symm h1'
        · exact z
      let p' := fu (fu p (a + m) g) (a + n) q
      have e1 : ∀ j, j < n → j ≠ m → p' (a + j) = p (a + j) := fun j hj hne => by
        show fu (fu p (a + m) g) (a + n) q (a + j) = _
        rw [fu_n (by omega), fu_n (by omega)]
      have e2 : p' (a + m) = g := by
        show fu (fu p (a + m) g) (a + n) q (a + m) = _
        rw [fu_n (by omega), fu_s]
      have e3 : p' (a + n) = q := fu_s _ _ _
      have hpr' : pr p' a (n + 1) = C := by
        show pmul (pr p' a n) (p' (a + n)) = C
        rw [e3]
        have h3 : pr p' a n = pr (fu p (a + m) g) a n := pr_congr n (fun j hj => fu_n (by omega))
        have h4 := pr_set (p := p) (a := a) (i := m) (u := g) n hm
        rw [hpr, hqe, ← pmul_assoc] at h4
        rw [h3]
        exact pmul_canc g0 h4
      have h2' : ∀ j, j < n + 1 → 2 ≤ p' (a + j) := by
        intro j hj
        by_cases ej : j = n
        · rw [ej, e3]; exact hq2
        · by_cases em : j = m
          · rw [em, e2]; exact hg2
          · rw [e1 j (by omega) em]; exact h2 j (by omega)
      have hcap2 := hcap p' (n + 1) hpr' h2'
      obtain ⟨fP2, fT2, aP, aT, er⟩ := hr (by omega)
      rw [er, Option.bind_some, nI_1]
      obtain ⟨p2, e2', n2, fP3, fT3, r1, r2, r3, r4, r5, r6, r7, r8⟩ := ih z (a + m + 1) (n + 1) p' (fu e (a + n) 0) fP2 fT2 (by omega) (by omega) (by omega) (by omega) aP aT h2' hpr' (fun j hj hc => by
        by_cases ej : j = n
        · rw [ej, e3]; exact Qq
        · by_cases em : j = m
          · rw [em, e2]; exact Qg
          · rw [e1 j (by omega) em]; exact hq' j (by omega) (by omega)) (fun j hj h3 h4 => by
          rw [e1 j (by omega) (by omega)]; exact hq j (by omega) (by omega) h4) (fun j hj => by
          by_cases ej : j = n
          · rw [ej, fu_s]
          · rw [fu_n (by omega)]; exact he j (by omega))
      refine ⟨p2, e2', n2, fP3, fT3, fun j hj => ?_, r2, r3, r4, r5, r6, r7, r8⟩
      obtain ⟨s1, s2⟩ := r1 j hj
      refine ⟨s1.trans ?_, s2.trans (fu_n (by omega))⟩
      show fu (fu p (a + m) g) (a + n) q j = _
      rw [fu_n (by omega), fu_n (by omega)]
/-- a part that no trace tells apart further -/
def PA (d K A : Nat) : Prop := ∀ k, 1 ≤ k → k < K → ∀ q q', Irr q → Irr q' → Dv q A → Dv q' A → (Dv q (ptr (ppow 2 k) d) ↔ Dv q' (ptr (ppow 2 k) d))
theorem PA.sub {d K A B : Nat} (h : PA d K A) (hd : Dv B A) : PA d K B := fun k h1 h2 q q' i1 i2 d1 d2 => h k h1 h2 q q' i1 i2 (d1.trans hd) (d2.trans hd)
theorem ptr_one : ∀ d, ptr 1 d = 0 ∨ ptr 1 d = 1
  | 0 => Or.inl rfl
  | d + 1 => by
    show ptr 1 d ^^^ ppow 1 (2 ^ d) = 0 ∨ ptr 1 d ^^^ ppow 1 (2 ^ d) = 1
    rw [ppow_one]
    rcases ptr_one d with h | h <;> rw [h]
    · right; rfl
    · left; rfl
theorem pure_irr {C D d A : Nat} (hD : Dg C D) (hsq : ∀ q, Irr q → ¬ Dv (pmul q q) C) (hdeg : ∀ q, Irr q → Dv q C → Dg q d) (hA : Dv A C) (hA2 : 2 ≤ A) (hp : PA d D A) : Irr A := by
  obtain ⟨q, hq, hqd⟩ := irr_ex A hA2
  apply Classical.byContradiction
  intro hn
  obtain ⟨B, hB⟩ := hqd
  have hB2 : 2 ≤ B := by
    rcases Nat.lt_or_ge B 2 with z | z
    · have : B = 0 ∨ B = 1 := by omega
      rcases this with rfl | rfl
      · rw [pmul_0l] at hB; omega
      · rw [pmul_1l] at hB; rw [hB] at hn; exact absurd hq hn
    · exact z
  obtain ⟨q', hq', hqd'⟩ := irr_ex B hB2
  have hne : q ≠ q' := by
    intro e
    subst e
    obtain ⟨E, hE⟩ := hqd'
    refine hsq q hq (Dv.trans ⟨E, ?_⟩ hA)
    rw [hB, hE, pmul_assoc]
  have dq : Dv q A := ⟨B, hB⟩
  have dq' : Dv q' A := by rw [hB]; exact hqd'.mulr q
  have gq := hdeg q hq (dq.trans hA)
  have gq' := hdeg q' hq' (dq'.trans hA)
  obtain ⟨b, hb⟩ := ptr_ex hq gq
  obtain ⟨a, ha1, ha2⟩ := crt hq hq' hne b
  -- the same value for both, of every number below 2^D
  have key : ∀ m, m ≤ D → ∀ x, x < 2 ^ m → ∃ s, (s = 0 ∨ s = 1) ∧ Cg q (ptr x d) s ∧ Cg q' (ptr x d) s := by
    intro m
    induction m with
    | zero =>
      intro _ x hx
      have : x = 0 := by simpa using hx
      subst this
      rw [ptr_0]
      exact ⟨0, Or.inl rfl, Cg.rfl', Cg.rfl'⟩
    | succ m ih =>
      intro hm x hx
      have hmono : ∃ s, (s = 0 ∨ s = 1) ∧ Cg q (ptr (2 ^ m) d) s ∧ Cg q' (ptr (2 ^ m) d) s := by
        rcases Nat.eq_zero_or_pos m with rfl | hm0
        · rcases ptr_one d with h | h
          · exact ⟨0, Or.inl rfl, Cg.of_eq h, Cg.of_eq h⟩
          · exact ⟨1, Or.inr rfl, Cg.of_eq h, Cg.of_eq h⟩
        · have hiff := hp m hm0 (by omega) q q' hq hq' dq dq'
          rw [ppow_two] at hiff
          rcases ptr_01 hq gq (2 ^ m) with h | h
          · exact ⟨0, Or.inl rfl, h, cg_0.mpr (hiff.mp (cg_0.mp h))⟩
          · rcases ptr_01 hq' gq' (2 ^ m) with h' | h'
            · exfalso
              have := hiff.mpr (cg_0.mp h')
              have h1 := (Cg.symm h).dv this
              have := h1.eq1; have := hq.1; omega
            · exact ⟨1, Or.inr rfl, h, h'⟩
      rcases Nat.lt_or_ge x (2 ^ m) with z | z
      · exact ih (by omega) x z
      · have hx2 : x ^^^ 2 ^ m < 2 ^ m := xor_drop z hx (Nat.le_refl _) (pow_lt_of_lt (by omega))
        obtain ⟨s1, t1, t2, t3⟩ := ih (by omega) _ hx2
        obtain ⟨s2, u1, u2, u3⟩ := hmono
        have ex : x = (x ^^^ 2 ^ m) ^^^ 2 ^ m := by rw [Nat.xor_assoc, Nat.xor_self, Nat.xor_zero]
        refine ⟨s1 ^^^ s2, ?_, ?_, ?_⟩
        · rcases t1 with rfl | rfl <;> rcases u1 with rfl | rfl <;> simp
        · rw [ex, ptr_add]; exact t2.xor u2
        · rw [ex, ptr_add]; exact t3.xor u3
  obtain ⟨s, hs, k1, k2⟩ := key D (Nat.le_refl _) (pmod a C) (pmod_lt hD a)
  have c1 : Cg q (pmod a C) a := (pmod_cg a C).low (dq.trans hA)
  have c2 : Cg q' (pmod a C) a := (pmod_cg a C).low (dq'.trans hA)
  have v1 : Cg q s 1 := k1.symm.trans (((c1.trans ha1).tr d).trans hb)
  have v2 : Cg q' s 0 := by
    refine k2.symm.trans (((c2.trans ha2).tr d).trans ?_)
    rw [ptr_0]; exact Cg.rfl'
  rcases hs with rfl | rfl
  · have := (cg_0.mp v1.symm).eq1; have := hq.1; omega
  · have := (cg_0.mp v2).eq1; have := hq'.1; omega
theorem sm_all {g : Nat → Nat} {d : Nat} : ∀ n, (∀ j, j < n → d ≤ g j) → sm g n ≤ n * d → ∀ j, j < n → g j = d
  | 0, _, _, j, hj => by omega
  | n + 1, h, hs, j, hj => by
    have h1 : sm (fun _ => d) n ≤ sm g n := sm_le n (fun j hj => h j (by omega))
    rw [sm_c] at h1
    have h2 := h n (by omega)
    have hs' : sm g n + g n ≤ (n + 1) * d := hs
    rw [Nat.add_mul, Nat.one_mul] at hs'
    by_cases e : j = n
    · subst e; omega
    · exact sm_all n (fun j hj => h j (by omega)) (by omega) j (by omega)
theorem dg_irr {A q d : Nat} (hA : Dg A d) (hq : Irr q) (hqd : Dv q A) (hd : Dg q d) : Irr A := by
  obtain ⟨c, rfl⟩ := hqd
  have hc : 0 < c := by
    rcases Nat.eq_zero_or_pos c with rfl | h
    · rw [pmul_0l] at hA; have := hA.pos; omega
    · exact h
  obtain ⟨i, hi⟩ := dg_ex hc
  have := (hi.mul hd).uniq hA
  have h0 : i = 0 := by omega
  subst h0
  have : c = 1 := by have := hi.1; have := hi.2; simp at *; omega
  rw [this, pmul_1l]; exact hq
theorem count_irr {C D d a n : Nat} {p : Nat → Nat} (hD : Dg C D) (hdeg : ∀ q, Irr q → Dv q C → Dg q d) (h2 : ∀ j, j < n → 2 ≤ p (a + j)) (hpr : pr p a n = C) (hc : D ≤ n * d) : ∀ j, j < n → Irr (p (a + j)) := by
  have hg : ∀ j, ∃ k, j < n → Dg (p (a + j)) k := by
    intro j
    by_cases h : j < n
    · obtain ⟨k, hk⟩ := dg_ex (show 0 < p (a + j) by have := h2 j h; omega)
      exact ⟨k, fun _ => hk⟩
    · exact ⟨0, fun z => absurd z h⟩
  let g := fun j => Classical.choose (hg j)
  have hgs : ∀ j, j < n → Dg (p (a + j)) (g j) := fun j hj => Classical.choose_spec (hg j) hj
  have hsum : sm g n = D := by
    have := pr_dg (p := p) (g := g) (a := a) n hgs
    rw [hpr] at this
    exact this.uniq hD
  have hge : ∀ j, j < n → d ≤ g j := by
    intro j hj
    obtain ⟨q, hq, hqd⟩ := irr_ex _ (h2 j hj)
    have hqC : Dv q C := hqd.trans (by rw [← hpr]; exact pr_dv n hj)
    have h1 := hqd.le (show 0 < p (a + j) by have := h2 j hj; omega) (hdeg q hq hqC)
    rcases Nat.lt_or_ge (g j) d with z | z
    · have := (hgs j hj).2
      have : 2 ^ (g j + 1) ≤ 2 ^ d := pow_le_of_le z
      omega
    · exact z
  intro j hj
  have he := sm_all n hge (by omega) j hj
  obtain ⟨q, hq, hqd⟩ := irr_ex _ (h2 j hj)
  have hqC : Dv q C := hqd.trans (by rw [← hpr]; exact pr_dv n hj)
  have := hgs j hj
  rw [he] at this
  exact dg_irr this hq hqd (hdeg q hq hqC)
theorem pa_step {C d k A g T : Nat} (hsq : ∀ q, Irr q → ¬ Dv (pmul q q) C) (hT : ∀ q, Irr q → Dv q C → (Dv q T ↔ Dv q (ptr (ppow 2 k) d))) (hA : Dv A C) (hp : PA d k A) (hg : ∀ h, Dv h g ↔ Dv h A ∧ Dv h T) : (g = 1 ∨ g = A → PA d (k + 1) A) ∧ ∀ q, A = pmul q g → g ≠ 1 → g ≠ A → PA d (k + 1) g ∧ PA d (k + 1) q := by
  have ext : ∀ B, Dv B A → (∀ q q', Irr q → Irr q' → Dv q B → Dv q' B → (Dv q T ↔ Dv q' T)) → PA d (k + 1) B := by
    intro B hB h j h1 h2 q q' i1 i2 d1 d2
    by_cases e : j = k
    · subst e
      rw [← hT q i1 ((d1.trans hB).trans hA), ← hT q' i2 ((d2.trans hB).trans hA)]
      exact h q q' i1 i2 d1 d2
    · exact (hp.sub hB) j h1 (by omega) q q' i1 i2 d1 d2
  constructor
  · intro h
    refine ext A (Dv.rfl' A) (fun q q' i1 i2 d1 d2 => ?_)
    rcases h with rfl | rfl
    · have no : ∀ r, Irr r → Dv r A → ¬ Dv r T := fun r hr h1 h2 => by
        have := ((hg r).mpr ⟨h1, h2⟩).eq1; have := hr.1; omega
      exact ⟨fun z => absurd z (no q i1 d1), fun z => absurd z (no q' i2 d2)⟩
    · exact ⟨fun _ => ((hg q').mp d2).2, fun _ => ((hg q).mp d1).2⟩
  · intro B hB h1 h2
    have hgA : Dv g A := ((hg g).mp (Dv.rfl' g)).1
    have hBA : Dv B A := ⟨g, by rw [hB, pmul_comm]⟩
    constructor
    · exact ext g hgA (fun q q' i1 i2 d1 d2 => ⟨fun _ => ((hg q').mp d2).2, fun _ => ((hg q).mp d1).2⟩)
    · have no : ∀ r, Irr r → Dv r B → ¬ Dv r T := by
        intro r hr h3 h4
        have h5 : Dv r g := (hg r).mpr ⟨h3.trans hBA, h4⟩
        obtain ⟨u, hu⟩ := h3
        obtain ⟨v, hv⟩ := h5
        refine hsq r hr (Dv.trans ⟨pmul u v, ?_⟩ hA)
        rw [hB, hu, hv, pmul_assoc, pmul_assoc, pmul_lc r v]
      exact ext B hBA (fun q q' i1 i2 d1 d2 => ⟨fun z => absurd z (no q i1 d1), fun z => absurd z (no q' i2 d2)⟩)
theorem sX0_split12 {N a C D d : Nat} (hN : Big N) (hD : Dg C D) (hD1 : 1 ≤ D) (hD32 : D ≤ 32) (hd1 : 1 ≤ d) (hd : d ≤ 32) (hsq : ∀ q, Irr q → ¬ Dv (pmul q q) C) (hdeg : ∀ q, Irr q → Dv q C → Dg q d) (hcap : ∀ p n, pr p a n = C → (∀ j, j < n → 2 ≤ p (a + j)) → a + n ≤ 9) :
    ∀ (t z k n : Nat) (p e : Nat → Nat) (fP : Nat → Int64) (fT : Nat → Int32), t < z → k + t = D → 1 ≤ k → AP fP p (a + n) → AT fT e (a + n) → (∀ j, j < n → 2 ≤ p (a + j)) → pr p a n = C → (∀ j, j < n → PA d k (p (a + j))) → (∀ j, j < n → e (a + j) = 0) →
    ∃ p2 e2 n2 fP2 fT2, (∀ j, j < a → p2 j = p j ∧ e2 j = e j) ∧ AP fP2 p2 (a + n2) ∧ AT fT2 e2 (a + n2) ∧ pr p2 a n2 = C ∧ (∀ j, j < n2 → Irr (p2 (a + j))) ∧ (∀ j, j < n2 → e2 (a + j) = 0) ∧ fX0_split_L12 N (nI a) (lN C) (nI d) (nI D) (fun fN_19 fP_20 fT_21 => (some (fN_19, fP_20, fT_21))) z (nI (a + n)) fP fT (lN (pmod (ppow 2 (k - 1)) C)) (nI k) = some (nI (a + n2), fP2, fT2) := by
  intro t
  have hN' : 2 ^ 36 ≤ N := hN
  have hC33 : C < 2 ^ 33 := Nat.lt_of_lt_of_le hD.2 (pow_le_of_le (by omega))
  induction t with
  | zero =>
    intro z k n p e fP fT hz hk hk1 hP hT h2 hpr hpa he
    obtain ⟨z, rfl⟩ : ∃ y, z = y + 1 := ⟨z - 1, by omega⟩
    have : k = D := by omega
    subst this
    refine ⟨p, e, n, fP, fT, fun j _ => ⟨rfl, rfl⟩, hP, hT, hpr, fun j hj => ?_, he, ?_⟩
    · exact pure_irr hD hsq hdeg (by rw [← hpr]; exact pr_dv n hj) (h2 j hj) (hpa j hj)
    · rw [fX0_split_L12_s, fX0_split_B12, if_pos (nI_le (Nat.le_refl _) (by omega))]
  | succ t ih =>
    intro z k n p e fP fT hz hk hk1 hP hT h2 hpr hpa he
    obtain ⟨z, rfl⟩ : ∃ y, z = y + 1 := ⟨z - 1, by omega⟩
    have hcap1 := hcap p n hpr h2
    have hnd : n * d ≤ 9 * 32 := Nat.mul_le_mul (by omega) hd
    have ec : (nI (a + n) - nI a) * nI d = nI (n * d) := by rw [nSub (by omega), show a + n - a = n by omega, pk_mul]
    rw [fX0_split_L12_s, fX0_split_B12, if_neg (nI_ge (by omega) (by omega)), ec]
    by_cases hcnt : D ≤ n * d
    · refine ⟨p, e, n, fP, fT, fun j _ => ⟨rfl, rfl⟩, hP, hT, hpr, count_irr hD hdeg h2 hpr hcnt, he, ?_⟩
      rw [if_pos (nI_le hcnt (by omega))]
    · rw [if_neg (nI_ge (by omega) (by omega))]
      have hpk : pmod (2 * pmod (ppow 2 (k - 1)) C) C = pmod (ppow 2 k) C := by
        refine pmod_congr hD.pos ?_
        obtain ⟨k', rfl⟩ : ∃ k', k = k' + 1 := ⟨k - 1, by omega⟩
        show Cg C _ (pmul (ppow 2 k') 2)
        rw [pmul_2r]; exact cg_2 (pmod_cg _ _)
      rw [sX2_timesX hD hD1 (by omega) (pmod_lt hD _), Option.bind_some, hpk, sX2_trace hN hD hD1 (by omega) (by omega) hd1 (pmod_lt hD _), Option.bind_some, nI_1]
      have hTl : pmod (ptr (pmod (ppow 2 k) C) d) C < 2 ^ 40 := Nat.lt_of_lt_of_le (pmod_lt hD _) (pow_le_of_le (by omega))
      have hTq : ∀ q, Irr q → Dv q C → (Dv q (pmod (ptr (pmod (ppow 2 k) C) d) C) ↔ Dv q (ptr (ppow 2 k) d)) := by
        intro q _ hqC
        have c : Cg q (pmod (ptr (pmod (ppow 2 k) C) d) C) (ptr (ppow 2 k) d) := ((pmod_cg _ C).trans ((pmod_cg _ C).tr d)).low hqC
        exact ⟨fun z => c.symm.dv z, fun z => c.dv z⟩
      obtain ⟨p2, e2, n2, fP2, fT2, r1, r2, r3, r4, r5, r6, r7, r8⟩ := sX0_split62 (N := N) (a := a) (b := a + n) (C := C) (x2 := lN C) (x6 := lN (pmod (ppow 2 k) C)) (x4 := nI d) (x5 := nI D) (x8 := nI k) (k := fun fN_14 fP_15 fT_16 => fX0_split_L12 N (nI a) (lN C) (nI d) (nI D) (fun fN_19 fP_20 fT_21 => (some (fN_19, fP_20, fT_21))) z fN_14 fP_15 fT_16 (lN (pmod (ppow 2 k) C)) (nI (k + 1))) (Q := PA d k) (Q' := PA d (k + 1)) hN hD.pos (by omega) hTl hcap (fun A g hA hA2 hQ hg => pa_step hsq hTq hA hQ hg) n N a n p e fP fT (by omega) rfl (Nat.le_refl _) (Nat.le_refl _) hP hT h2 hpr (fun j hj hc => by omega) (fun j hj _ _ => hpa j hj) he
      obtain ⟨p3, e3, n3, fP3, fT3, s1, s2, s3, s4, s5, s6, s7⟩ := ih z (k + 1) n2 p2 e2 fP2 fT2 (by omega) (by omega) (by omega) r2 r3 r4 r5 r6 r7
      refine ⟨p3, e3, n3, fP3, fT3, fun j hj => ⟨(s1 j hj).1.trans (r1 j hj).1, (s1 j hj).2.trans (r1 j hj).2⟩, s2, s3, s4, s5, s6, r8.trans s7⟩
theorem sX0_split {N a C D d : Nat} {p e : Nat → Nat} {fP : Nat → Int64} {fT : Nat → Int32} (hN : Big N) (hD : Dg C D) (hD1 : 1 ≤ D) (hD32 : D ≤ 32) (hd1 : 1 ≤ d) (hd : d ≤ 32) (hsq : ∀ q, Irr q → ¬ Dv (pmul q q) C) (hdeg : ∀ q, Irr q → Dv q C → Dg q d) (hcap : ∀ p n, pr p a n = C → (∀ j, j < n → 2 ≤ p (a + j)) → a + n ≤ 9) (hP : AP fP p (a + 1)) (hT : AT fT e (a + 1)) (hpa : p a = C) (hea : e a = 0) :
    ∃ p2 e2 n2 fP2 fT2, (∀ j, j < a → p2 j = p j ∧ e2 j = e j) ∧ AP fP2 p2 (a + n2) ∧ AT fT2 e2 (a + n2) ∧ pr p2 a n2 = C ∧ (∀ j, j < n2 → Irr (p2 (a + j))) ∧ (∀ j, j < n2 → e2 (a + j) = 0) ∧ fX0_split N (nI (a + 1)) fP fT (nI a) (lN C) (nI d) = some (nI (a + n2), fP2, fT2) := by
  unfold fX0_split
  have hN' : 2 ^ 36 ≤ N := hN
  have hC33 : C < 2 ^ 33 := Nat.lt_of_lt_of_le hD.2 (pow_le_of_le (by omega))
  have h2D : 2 ^ 1 ≤ 2 ^ D := pow_le_of_le hD1
  have hC2 : 2 ≤ C := by have := hD.1; omega
  rw [sX2_degree hN hD.pos (by omega) hD, Option.bind_some]
  have e1 : (1 : Int64) = lN (pmod (ppow 2 (1 - 1)) C) := by
    have : pmod (ppow 2 (1 - 1)) C = 1 := pmod_eq hD (by omega) Cg.rfl'
    rw [this]; rfl
  rw [e1]
  refine sX0_split12 hN hD hD1 hD32 hd1 hd hsq hdeg hcap (D - 1) N 1 1 p e fP fT (by omega) (by omega) (Nat.le_refl _) hP hT (fun j hj => ?_) ?_ (fun j hj k h1 h2 => by omega) (fun j hj => ?_)
  · have : j = 0 := by omega
    subst this; rw [Nat.add_zero, hpa]; exact hC2
  · show pmul 1 (p (a + 0)) = C
    rw [pmul_1l, Nat.add_zero, hpa]
  · have : j = 0 := by omega
    subst this; rw [Nat.add_zero, hea]

/-! ===== products over a stretch of an array; factor rows; how many factors there can be ===== -/
def fu (p : Nat → Nat) (i v : Nat) : Nat → Nat := fun j => if j = i then v else p j
theorem fu_s (p : Nat → Nat) (i v : Nat) : fu p i v i = v := by simp [fu]
theorem fu_n {p : Nat → Nat} {i j v : Nat} (h : j ≠ i) : fu p i v j = p j := by simp [fu, h]
def pr (p : Nat → Nat) (a : Nat) : Nat → Nat
  | 0 => 1
  | n + 1 => pmul (pr p a n) (p (a + n))
theorem pr_congr {p q : Nat → Nat} {a : Nat} : ∀ n, (∀ j, j < n → p (a + j) = q (a + j)) → pr p a n = pr q a n
  | 0, _ => rfl
  | n + 1, h => by
    show pmul _ _ = pmul _ _
    rw [pr_congr n (fun j hj => h j (by omega)), h n (by omega)]
theorem pr_set {p : Nat → Nat} {a i u : Nat} : ∀ n, i < n → pmul (pr (fu p (a + i) u) a n) (p (a + i)) = pmul (pr p a n) u
  | 0, h => by omega
  | n + 1, h => by
    show pmul (pmul (pr (fu p (a + i) u) a n) (fu p (a + i) u (a + n))) (p (a + i)) = pmul (pmul (pr p a n) (p (a + n))) u
    by_cases e : i = n
    · subst e
      rw [fu_s, pr_congr (p := fu p (a + i) u) (q := p) i (fun j hj => fu_n (by omega)), pmul_assoc, pmul_assoc, pmul_comm u]
    · rw [fu_n (show a + n ≠ a + i by omega), pmul_assoc, pmul_comm (p (a + n)), ← pmul_assoc, pr_set n (by omega), pmul_assoc, pmul_assoc, pmul_comm u]
theorem pr_dv {p : Nat → Nat} {a j : Nat} : ∀ n, j < n → Dv (p (a + j)) (pr p a n)
  | 0, h => by omega
  | n + 1, h => by
    show Dv _ (pmul _ _)
    by_cases e : j = n
    · subst e; exact (Dv.rfl' _).mull _
    · exact (pr_dv n (by omega)).mulr _
theorem pr_irr {p : Nat → Nat} {a q : Nat} (hq : Irr q) : ∀ n, Dv q (pr p a n) → ∃ j, j < n ∧ Dv q (p (a + j))
  | 0, h => by have := Dv.eq1 h; have := hq.1; omega
  | n + 1, h => by
    rcases hq.prime h with h1 | h1
    · obtain ⟨j, a1, a2⟩ := pr_irr hq n h1
      exact ⟨j, by omega, a2⟩
    · exact ⟨n, by omega, h1⟩
theorem pr_pos {p : Nat → Nat} {a : Nat} : ∀ n, (∀ j, j < n → 0 < p (a + j)) → 0 < pr p a n
  | 0, _ => Nat.one_pos
  | n + 1, h => pmul_pos (pr_pos n (fun j hj => h j (by omega))) (h n (by omega))
def sm (g : Nat → Nat) : Nat → Nat
  | 0 => 0
  | n + 1 => sm g n + g n
theorem sm_le {g h : Nat → Nat} : ∀ n, (∀ j, j < n → g j ≤ h j) → sm g n ≤ sm h n
  | 0, _ => Nat.le_refl _
  | n + 1, hh => by
    have := sm_le n (fun j hj => hh j (by omega))
    have := hh n (by omega)
    simp only [sm]; omega
theorem sm_c (c : Nat) : ∀ n, sm (fun _ => c) n = n * c
  | 0 => by simp [sm]
  | n + 1 => by simp only [sm]; rw [sm_c c n, Nat.add_mul, Nat.one_mul]
theorem sm_add (g h : Nat → Nat) : ∀ n, sm (fun j => g j + h j) n = sm g n + sm h n
  | 0 => rfl
  | n + 1 => by simp only [sm]; rw [sm_add g h n]; omega
theorem pr_dg {p g : Nat → Nat} {a : Nat} : ∀ n, (∀ j, j < n → Dg (p (a + j)) (g j)) → Dg (pr p a n) (sm g n)
  | 0, _ => ⟨by simp [pr, sm], by simp [pr, sm]⟩
  | n + 1, h => (pr_dg n (fun j hj => h j (by omega))).mul (h n (by omega))
/-- two factors that are not the same -/
theorem crt {q q' : Nat} (h : Irr q) (h' : Irr q') (hne : q ≠ q') (b : Nat) : ∃ a, Cg q a b ∧ Cg q' a 0 := by
  have hnd : ¬ Dv q q' := fun e => hne (h.eq h' e)
  obtain ⟨u, hu⟩ := h.inv hnd
  refine ⟨pmul b (pmul u q'), ?_, ?_⟩
  · have := (Cg.rfl' (m := q) (a := b)).mul hu
    rwa [pmul_1] at this
  · rw [cg_0]; exact ((Dv.rfl' q').mull u).mull b
theorem mult_eq {P A A' : Nat} (hP : Irr P) (hA : ¬ Dv P A) (hA' : ¬ Dv P A') : ∀ a b, pmul A (ppow P a) = pmul A' (ppow P b) → a = b ∧ A = A'
  | 0, 0, h => by
    have e : ∀ X, pmul X (ppow P 0) = X := fun X => pmul_1 X
    rw [e, e] at h; exact ⟨rfl, h⟩
  | 0, b + 1, h => by
    have e : pmul A (ppow P 0) = A := pmul_1 A
    rw [e] at h
    exact absurd (by rw [h]; exact (((Dv.rfl' P).mull _)).mull _) hA
  | a + 1, 0, h => by
    have e : pmul A' (ppow P 0) = A' := pmul_1 A'
    rw [e] at h
    exact absurd (by rw [← h]; exact (((Dv.rfl' P).mull _)).mull _) hA'
  | a + 1, b + 1, h => by
    have h1 : pmul (pmul A (ppow P a)) P = pmul (pmul A' (ppow P b)) P := by
      rw [pmul_assoc, pmul_assoc]; exact h
    have h2 := mult_eq hP hA hA' a b (pmul_canc hP.pos h1)
    exact ⟨by omega, h2.2⟩
/-- the row of factors of G: rising, each as often as told -/
def prE (p e : Nat → Nat) (n : Nat) : Nat := pr (fun i => ppow (p i) (e i)) 0 n
def FA (p e : Nat → Nat) (n G : Nat) : Prop := (∀ i, i < n → Irr (p i) ∧ 1 ≤ e i) ∧ (∀ i j, i < j → j < n → p i < p j) ∧ prE p e n = G
theorem irr_pow {P Q : Nat} (hP : Irr P) (hQ : Irr Q) : ∀ n, Dv P (ppow Q n) → P = Q
  | 0, h => by have := Dv.eq1 h; have := hP.1; omega
  | n + 1, h => by
    rcases hP.prime h with h1 | h1
    · exact irr_pow hP hQ n h1
    · exact hP.eq hQ h1
theorem dv_pow {P : Nat} {n : Nat} (h : 1 ≤ n) : Dv P (ppow P n) := by
  obtain ⟨k, rfl⟩ : ∃ k, n = k + 1 := ⟨n - 1, by omega⟩
  exact (Dv.rfl' P).mull _
theorem prE_irr {p e : Nat → Nat} {n P : Nat} (hP : Irr P) (h : ∀ i, i < n → Irr (p i)) (hd : Dv P (prE p e n)) : ∃ i, i < n ∧ P = p i := by
  obtain ⟨j, h1, h2⟩ := pr_irr hP n hd
  rw [Nat.zero_add] at h2
  exact ⟨j, h1, irr_pow hP (h j h1) _ h2⟩
theorem FA.uniq : ∀ (n : Nat) {p e p' e' : Nat → Nat} {n' G : Nat}, FA p e n G → FA p' e' n' G → n = n' ∧ ∀ i, i < n → p i = p' i ∧ e i = e' i
  | 0, p, e, p', e', n', G, h, h' => by
    cases n' with
    | zero => exact ⟨rfl, fun i hi => by omega⟩
    | succ m =>
      exfalso
      have h0 : G = 1 := h.2.2.symm
      have h1 : Dv (p' m) G := by
        rw [← h'.2.2]
        have := pr_dv (p := fun i => ppow (p' i) (e' i)) (a := 0) (j := m) (m + 1) (by omega)
        rw [Nat.zero_add] at this
        exact (dv_pow (h'.1 m (by omega)).2).trans this
      rw [h0] at h1
      have := h1.eq1; have := (h'.1 m (by omega)).1.1; omega
  | n + 1, p, e, p', e', n', G, h, h' => by
    have hpd : Dv (p n) G := by
      rw [← h.2.2]
      have := pr_dv (p := fun i => ppow (p i) (e i)) (a := 0) (j := n) (n + 1) (by omega)
      rw [Nat.zero_add] at this
      exact (dv_pow (h.1 n (by omega)).2).trans this
    have hP := (h.1 n (by omega)).1
    cases n' with
    | zero =>
      exfalso
      have h0 : G = 1 := h'.2.2.symm
      rw [h0] at hpd
      have := hpd.eq1; have := hP.1; omega
    | succ m =>
      have hP' := (h'.1 m (by omega)).1
      have hpd' : Dv (p' m) G := by
        rw [← h'.2.2]
        have := pr_dv (p := fun i => ppow (p' i) (e' i)) (a := 0) (j := m) (m + 1) (by omega)
        rw [Nat.zero_add] at this
        exact (dv_pow (h'.1 m (by omega)).2).trans this
      have hle : p n ≤ p' m := by
        obtain ⟨i, h1, h2⟩ := prE_irr hP (fun i hi => (h'.1 i hi).1) (by rw [h'.2.2]; exact hpd)
        by_cases hi : i = m
        · rw [h2, hi]; exact Nat.le_refl _
        · have := h'.2.1 i m (by omega) (by omega); omega
      have hle' : p' m ≤ p n := by
        obtain ⟨i, h1, h2⟩ := prE_irr hP' (fun i hi => (h.1 i hi).1) (by rw [h.2.2]; exact hpd')
        by_cases hi : i = n
        · rw [h2, hi]; exact Nat.le_refl _
        · have := h.2.1 i n (by omega) (by omega); omega
      have hpe : p n = p' m := by omega
      have hA : ¬ Dv (p n) (prE p e n) := by
        intro hd
        obtain ⟨i, h1, h2⟩ := prE_irr hP (fun i hi => (h.1 i (by omega)).1) hd
        have := h.2.1 i n h1 (by omega); omega
      have hA' : ¬ Dv (p n) (prE p' e' m) := by
        intro hd
        obtain ⟨i, h1, h2⟩ := prE_irr hP (fun i hi => (h'.1 i (by omega)).1) hd
        have := h'.2.1 i m h1 (by omega); omega
      have e1 : pmul (prE p e n) (ppow (p n) (e n)) = pmul (prE p' e' m) (ppow (p n) (e' m)) := by
        have a1 : pmul (prE p e n) (ppow (p (0 + n)) (e (0 + n))) = G := h.2.2
        have a2 : pmul (prE p' e' m) (ppow (p' (0 + m)) (e' (0 + m))) = G := h'.2.2
        rw [Nat.zero_add] at a1 a2
        rw [a1, hpe, a2]
      obtain ⟨ee, eA⟩ := mult_eq hP hA hA' _ _ e1
      obtain ⟨i1, i2⟩ := FA.uniq n (G := prE p e n) ⟨fun i hi => h.1 i (by omega), fun i j a b => h.2.1 i j a (by omega), rfl⟩ ⟨fun i hi => h'.1 i (by omega), fun i j a b => h'.2.1 i j a (by omega), eA.symm⟩
      refine ⟨by omega, fun i hi => ?_⟩
      subst i1
      by_cases hin : i = n
      · subst hin; exact ⟨hpe, ee⟩
      · exact i2 i (by omega)
/-- small ones: how many different factors there can be -/
theorem small_irr0 : ∀ q, q < 32 → q % 2 = 1 → 2 ≤ q → q ∈ [3, 7, 11, 13, 19, 25, 31] ∨ (List.range 16).any (fun a => (List.range 16).any (fun b => decide (q = pmul a b ∧ a ≠ 1 ∧ b ≠ 1))) = true := by decide +kernel
theorem small_irr (q : Nat) (h1 : q < 32) (h2 : q % 2 = 1) (h3 : 2 ≤ q) : q ∈ [3, 7, 11, 13, 19, 25, 31] ∨ ∃ a, a < 16 ∧ ∃ b, b < 16 ∧ q = pmul a b ∧ a ≠ 1 ∧ b ≠ 1 := by
  rcases small_irr0 q h1 h2 h3 with h | h
  · exact Or.inl h
  · right
    obtain ⟨a, ha, h⟩ := List.any_eq_true.mp h
    obtain ⟨b, hb, h⟩ := List.any_eq_true.mp h
    have := of_decide_eq_true h
    exact ⟨a, List.mem_range.mp ha, b, List.mem_range.mp hb, this⟩
def vs (q : Nat) : Nat := if q < 4 then 4 else if q < 8 then 3 else if q < 16 then 2 else if q < 32 then 1 else 0
theorem vs_dg {q d : Nat} (hq : 2 ≤ q) (h : Dg q d) : 5 ≤ d + vs q := by
  have h1 := h.2
  unfold vs
  rcases Nat.lt_or_ge d 5 with z | z
  · have : d = 0 ∨ d = 1 ∨ d = 2 ∨ d = 3 ∨ d = 4 := by omega
    rcases this with rfl | rfl | rfl | rfl | rfl <;> simp at h1 <;> (split <;> first | omega | (split <;> first | omega | (split <;> first | omega | (split <;> omega))))
  · omega
def lsum (l : List Nat) : Nat := l.foldr (· + ·) 0
theorem lsum_perm {l1 l2 : List Nat} (h : l1.Perm l2) : lsum l1 = lsum l2 := by
  induction h with
  | nil => rfl
  | cons a _ ih => show a + _ = a + _; exact congrArg (a + ·) ih
  | swap a b l => show b + (a + _) = a + (b + _); omega
  | trans _ _ h1 h2 => exact h1.trans h2
theorem vs_le {l1 : List Nat} : ∀ {l2 : List Nat}, l1.Nodup → (∀ q ∈ l1, q ∈ l2 ∨ vs q = 0) → lsum (l1.map vs) ≤ lsum (l2.map vs) := by
  induction l1 with
  | nil => intro l2 _ _; exact Nat.zero_le _
  | cons q l1 ih =>
    intro l2 hn hs
    obtain ⟨hq, hn1⟩ := List.nodup_cons.mp hn
    show vs q + lsum (l1.map vs) ≤ _
    rcases hs q List.mem_cons_self with h | h
    · have hp := List.perm_cons_erase h
      have e : lsum (l2.map vs) = vs q + lsum ((l2.erase q).map vs) := lsum_perm (hp.map vs)
      rw [e]
      have := ih (l2 := l2.erase q) hn1 (by
        intro r hr
        rcases hs r (List.mem_cons_of_mem _ hr) with a | a
        · left
          rcases List.mem_cons.mp (hp.mem_iff.mp a) with z | z
          · subst z; exact absurd hr hq
          · exact z
        · exact Or.inr a)
      omega
    · rw [h, Nat.zero_add]
      exact ih hn1 (fun r hr => hs r (List.mem_cons_of_mem _ hr))
theorem lsum_sm (q : Nat → Nat) : ∀ n, lsum (((List.range n).map q).map vs) = sm (fun i => vs (q i)) n
  | 0 => rfl
  | n + 1 => by
    rw [List.range_succ, List.map_append, List.map_append]
    have : ∀ (a b : List Nat), lsum (a ++ b) = lsum a + lsum b := by
      intro a b
      induction a with
      | nil => show lsum b = 0 + lsum b; omega
      | cons x a ih => show x + lsum (a ++ b) = x + lsum a + lsum b; omega
    rw [this, lsum_sm q n]
    rfl
theorem nine {q d : Nat → Nat} {n : Nat} (hi : ∀ i, i < n → Irr (q i) ∧ q i % 2 = 1 ∧ Dg (q i) (d i)) (hne : ∀ i j, i < j → j < n → q i ≠ q j) (hs : sm d n ≤ 32) : n ≤ 9 := by
  have h1 : sm (fun _ => 5) n ≤ sm (fun i => d i + vs (q i)) n := sm_le n (fun j hj => vs_dg (hi j hj).1.1 (hi j hj).2.2)
  rw [sm_c, sm_add, ← lsum_sm] at h1
  have hnd : ((List.range n).map q).Nodup := by
    unfold List.Nodup
    rw [List.pairwise_map]
    refine List.Pairwise.imp_of_mem (fun {a b} ha hb hlt e => ?_) (List.pairwise_lt_range (n := n))
    exact hne a b hlt (List.mem_range.mp hb) e
  have h2 := vs_le (l2 := [3, 7, 11, 13, 19, 25, 31]) hnd (by
    intro r hr
    obtain ⟨i, h1, rfl⟩ := List.mem_map.mp hr
    obtain ⟨a1, a2, a3⟩ := hi i (List.mem_range.mp h1)
    rcases Nat.lt_or_ge (q i) 32 with z | z
    · rcases small_irr (q i) z a2 a1.1 with b | ⟨a, _, b, _, e, c1, c2⟩
      · exact Or.inl b
      · rcases a1.2 a b e with c | c
        · exact absurd c c1
        · exact absurd c c2
    · right; unfold vs; rw [if_neg (by omega), if_neg (by omega), if_neg (by omega), if_neg (by omega)])
  have h3 : lsum ([3, 7, 11, 13, 19, 25, 31].map vs) = 14 := by decide
  rw [h3] at h2
  omega
/-- factors of an odd one are odd -/
theorem dv_odd {G q : Nat} (hG : G % 2 = 1) (h : Dv q G) : q % 2 = 1 := by
  obtain ⟨c, rfl⟩ := h
  rcases Nat.mod_two_eq_zero_or_one q with z | z
  · exfalso
    obtain ⟨r, rfl⟩ : ∃ r, q = 2 * r := ⟨q / 2, by omega⟩
    rw [pmul_even] at hG; omega
  · exact z

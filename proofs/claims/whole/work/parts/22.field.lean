/-! ===== greatest divisors, polynomials without a product of their own, the field modulo one ===== -/
theorem bezout : ∀ b a : Nat, ∃ g u v, g = pmul u a ^^^ pmul v b ∧ Dv g a ∧ Dv g b := by
  intro b
  induction b using Nat.strongRecOn with
  | _ b ih =>
    intro a
    rcases Nat.eq_zero_or_pos b with rfl | hb
    · exact ⟨a, 1, 0, by rw [pmul_1l, pmul_0l, Nat.xor_zero], Dv.rfl' a, Dv.zero a⟩
    · obtain ⟨k, hk⟩ := dg_ex hb
      obtain ⟨q, r, e, hr⟩ := div_ex hk a
      obtain ⟨g, u, v, hg, h1, h2⟩ := ih r (Nat.lt_of_lt_of_le hr hk.1) b
      refine ⟨g, v, u ^^^ pmul v q, ?_, ?_, h1⟩
      · rw [hg, e, pmul_xl, pmul_xr, pmul_assoc]
        rw [Nat.xor_comm (pmul u b), Nat.xor_comm (pmul v (pmul q b)) (pmul v r), Nat.xor_assoc, Nat.xor_comm (pmul u b), ← Nat.xor_assoc (pmul v (pmul q b)), Nat.xor_self, Nat.zero_xor]
      · rw [e]; exact (h1.mull q).xor h2
def Irr (f : Nat) : Prop := 2 ≤ f ∧ ∀ a b, f = pmul a b → a = 1 ∨ b = 1
theorem Dv.eq1 {a : Nat} (h : Dv a 1) : a = 1 := h.antisymm (Dv.one a)
theorem Dv.pos {a b : Nat} (h : Dv a b) (hb : 0 < b) : 0 < a := by
  obtain ⟨q, rfl⟩ := h
  rcases Nat.eq_zero_or_pos a with rfl | h
  · rw [pmul_0] at hb; omega
  · exact h
theorem Irr.pos {f : Nat} (h : Irr f) : 0 < f := by have := h.1; omega
theorem Irr.dv {f g : Nat} (h : Irr f) (hg : Dv g f) : g = 1 ∨ g = f := by
  obtain ⟨q, hq⟩ := hg
  rcases h.2 q g hq with h1 | h1
  · right; rw [hq, h1, pmul_1l]
  · exact Or.inl h1
theorem Irr.prime {f a b : Nat} (h : Irr f) (hd : Dv f (pmul a b)) : Dv f a ∨ Dv f b := by
  obtain ⟨g, u, v, hg, h1, h2⟩ := bezout a f
  rcases h.dv h1 with e | e
  · right
    rw [e] at hg
    have : b = pmul u (pmul f b) ^^^ pmul v (pmul a b) := by
      rw [← pmul_assoc, ← pmul_assoc, ← pmul_xl, ← hg, pmul_1l]
    rw [this]
    exact (((Dv.rfl' f).mulr b).mull u).xor (hd.mull v)
  · left; rw [← e]; exact h2
theorem Irr.inv {f a : Nat} (h : Irr f) (hd : ¬ Dv f a) : ∃ b, Cg f (pmul b a) 1 := by
  obtain ⟨g, u, v, hg, h1, h2⟩ := bezout a f
  rcases h.dv h1 with e | e
  · rw [e] at hg
    refine ⟨v, ?_⟩
    unfold Cg
    rw [hg, Nat.xor_comm (pmul u f), ← Nat.xor_assoc, Nat.xor_self, Nat.zero_xor]
    exact (Dv.rfl' f).mull u
  · rw [e] at h2; exact absurd h2 hd
theorem Irr.canc {f a b c : Nat} (h : Irr f) (hc : ¬ Dv f c) (e : Cg f (pmul a c) (pmul b c)) : Cg f a b := by
  unfold Cg at e ⊢
  rw [← pmul_xl] at e
  exact (h.prime e).resolve_right hc
theorem Irr.eq {f g : Nat} (hf : Irr f) (hg : Irr g) (h : Dv f g) : f = g := by
  rcases hg.dv h with e | e
  · have := hf.1; omega
  · exact e
theorem irr_ex : ∀ a : Nat, 2 ≤ a → ∃ f, Irr f ∧ Dv f a := by
  intro a
  induction a using Nat.strongRecOn with
  | _ a ih =>
    intro ha
    by_cases h : Irr a
    · exact ⟨a, h, Dv.rfl' a⟩
    · have : ∃ c d, a = pmul c d ∧ c ≠ 1 ∧ d ≠ 1 := by
        apply Classical.byContradiction
        intro hn
        apply h
        refine ⟨ha, fun c d e => ?_⟩
        apply Classical.byContradiction
        intro hx
        exact hn ⟨c, d, e, fun z => hx (Or.inl z), fun z => hx (Or.inr z)⟩
      obtain ⟨c, d, e, hc, hd⟩ := this
      have hc0 : 0 < c := by
        rcases Nat.eq_zero_or_pos c with rfl | q
        · rw [pmul_0l] at e; omega
        · exact q
      have hd0 : 0 < d := by
        rcases Nat.eq_zero_or_pos d with rfl | q
        · rw [pmul_0] at e; omega
        · exact q
      obtain ⟨i, hi⟩ := dg_ex hc0
      obtain ⟨j, hj⟩ := dg_ex hd0
      have hj1 : 1 ≤ j := by
        rcases Nat.eq_zero_or_pos j with rfl | q
        · have := hj.2; simp at this; omega
        · exact q
      have h3 := (hi.mul hj).1
      rw [← e] at h3
      have h4 : 2 ^ (i + 1) ≤ 2 ^ (i + j) := pow_le_of_le (by omega)
      obtain ⟨f, hf, hfd⟩ := ih c (by have := hi.2; omega) (by omega)
      exact ⟨f, hf, by rw [e]; exact hfd.mulr d⟩
/-- powers -/
def ppow (a : Nat) : Nat → Nat
  | 0 => 1
  | n + 1 => pmul (ppow a n) a
theorem ppow_1 (a : Nat) : ppow a 1 = a := pmul_1l a
theorem ppow_add (a m n : Nat) : ppow a (m + n) = pmul (ppow a m) (ppow a n) := by
  induction n with
  | zero => rw [Nat.add_zero]; exact (pmul_1 _).symm
  | succ n ih => rw [← Nat.add_assoc]; show pmul (ppow a (m + n)) a = pmul _ (pmul _ _); rw [ih, pmul_assoc]
theorem ppow_mul (a m n : Nat) : ppow a (m * n) = ppow (ppow a m) n := by
  induction n with
  | zero => rfl
  | succ n ih => rw [Nat.mul_succ, ppow_add, ih]; rfl
theorem ppow_mulb (a b n : Nat) : ppow (pmul a b) n = pmul (ppow a n) (ppow b n) := by
  induction n with
  | zero => exact (pmul_1 1).symm
  | succ n ih =>
    show pmul (ppow (pmul a b) n) (pmul a b) = pmul (pmul _ _) (pmul _ _)
    rw [ih, pmul_assoc, pmul_assoc, pmul_lc (ppow b n)]
theorem ppow_two (n : Nat) : ppow 2 n = 2 ^ n := by
  induction n with
  | zero => rfl
  | succ n ih => show pmul (ppow 2 n) 2 = _; rw [ih, pmul_2r, Nat.pow_succ, Nat.mul_comm]
theorem ppow_one (n : Nat) : ppow 1 n = 1 := by
  induction n with
  | zero => rfl
  | succ n ih => show pmul (ppow 1 n) 1 = _; rw [ih, pmul_1]
theorem ppow_zero {n : Nat} (h : 0 < n) : ppow 0 n = 0 := by
  obtain ⟨k, rfl⟩ : ∃ k, n = k + 1 := ⟨n - 1, by omega⟩
  exact pmul_0 _
theorem ppow_pos {a : Nat} (h : 0 < a) (n : Nat) : 0 < ppow a n := by
  induction n with
  | zero => exact Nat.one_pos
  | succ n ih => exact pmul_pos ih h
theorem Cg.pow {m a b : Nat} (h : Cg m a b) (n : Nat) : Cg m (ppow a n) (ppow b n) := by
  induction n with
  | zero => exact Cg.rfl'
  | succ n ih => exact ih.mul h
theorem ppow_sq (a k : Nat) : ppow a (2 ^ (k + 1)) = pmul (ppow a (2 ^ k)) (ppow a (2 ^ k)) := by
  rw [show 2 ^ (k + 1) = 2 ^ k + 2 ^ k by rw [Nat.pow_succ]; omega, ppow_add]
theorem frob (a b k : Nat) : ppow (a ^^^ b) (2 ^ k) = ppow a (2 ^ k) ^^^ ppow b (2 ^ k) := by
  induction k with
  | zero => simp [ppow_1]
  | succ k ih => rw [ppow_sq, ppow_sq, ppow_sq, ih, pmul_sq]
theorem Irr.npow {f a : Nat} (h : Irr f) (ha : ¬ Dv f a) (n : Nat) : ¬ Dv f (ppow a n) := by
  induction n with
  | zero => intro hd; have := hd.eq1; have := h.1; omega
  | succ n ih => intro hd; exact (h.prime hd).elim ih ha
/-- remainders -/
theorem pmod_ex (f x : Nat) : ∃ r, (∀ k, Dg f k → r < 2 ^ k) ∧ Cg f r x := by
  rcases Nat.eq_zero_or_pos f with rfl | h
  · exact ⟨x, fun k hk => by have := hk.pos; omega, Cg.rfl'⟩
  · obtain ⟨k, hk⟩ := dg_ex h
    obtain ⟨q, r, e, hr⟩ := div_ex hk x
    refine ⟨r, fun j hj => by rw [← hk.uniq hj]; exact hr, ?_⟩
    unfold Cg
    rw [e, Nat.xor_comm, Nat.xor_assoc, Nat.xor_self, Nat.xor_zero]
    exact (Dv.rfl' f).mull q
noncomputable def pmod (x f : Nat) : Nat := Classical.choose (pmod_ex f x)
theorem pmod_lt {f k : Nat} (hf : Dg f k) (x : Nat) : pmod x f < 2 ^ k := (Classical.choose_spec (pmod_ex f x)).1 k hf
theorem pmod_cg (x f : Nat) : Cg f (pmod x f) x := (Classical.choose_spec (pmod_ex f x)).2
theorem pmod_eq {f k x r : Nat} (hf : Dg f k) (hr : r < 2 ^ k) (h : Cg f r x) : pmod x f = r := ((pmod_cg x f).trans h.symm).uniq hf (pmod_lt hf x) hr
theorem pmod_congr {f x y : Nat} (hf : 0 < f) (h : Cg f x y) : pmod x f = pmod y f := by
  obtain ⟨k, hk⟩ := dg_ex hf
  exact pmod_eq hk (pmod_lt hk y) ((pmod_cg y f).trans h.symm)
theorem pmod_dv {f x : Nat} (hf : 0 < f) : pmod x f = 0 ↔ Dv f x := by
  obtain ⟨k, hk⟩ := dg_ex hf
  constructor
  · intro h
    have := pmod_cg x f
    rw [h] at this
    exact cg_0.mp this.symm
  · intro h
    exact pmod_eq hk (Nat.two_pow_pos k) (cg_0.mpr h).symm
/-- a row of numbers without a double that lies in another one as long is that one in another order -/
theorem perm_of_sub {l1 : List Nat} : ∀ {l2 : List Nat}, l1.Nodup → (∀ a ∈ l1, a ∈ l2) → l2.length ≤ l1.length → l1.Perm l2 := by
  induction l1 with
  | nil =>
    intro l2 _ _ h
    have : l2 = [] := List.eq_nil_of_length_eq_zero (by simpa using h)
    subst this
    exact List.Perm.nil
  | cons a l1 ih =>
    intro l2 hn hs hl
    obtain ⟨ha, hn1⟩ := List.nodup_cons.mp hn
    have ha2 : a ∈ l2 := hs a (List.mem_cons_self)
    have hp := List.perm_cons_erase ha2
    have hlen : l2.length = (l2.erase a).length + 1 := by
      have := hp.length_eq
      simpa using this
    refine ((ih hn1 ?_ ?_).cons a).trans hp.symm
    · intro b hb
      have hb2 : b ∈ a :: l2.erase a := hp.mem_iff.mp (hs b (List.mem_cons_of_mem _ hb))
      rcases List.mem_cons.mp hb2 with e | e
      · subst e; exact absurd hb ha
      · exact e
    · simp at hl; omega
def lprod (l : List Nat) : Nat := l.foldr pmul 1
theorem lprod_perm {l1 l2 : List Nat} (h : l1.Perm l2) : lprod l1 = lprod l2 := by
  induction h with
  | nil => rfl
  | cons a _ ih => show pmul a _ = pmul a _; exact congrArg (pmul a) ih
  | swap a b l => show pmul b (pmul a _) = pmul a (pmul b _); exact pmul_lc _ _ _
  | trans _ _ h1 h2 => exact h1.trans h2
theorem lprod_map {f a : Nat} {φ : Nat → Nat} (l : List Nat) (h : ∀ r ∈ l, Cg f (φ r) (pmul a r)) : Cg f (lprod (l.map φ)) (pmul (ppow a l.length) (lprod l)) := by
  induction l with
  | nil => show Cg f 1 (pmul 1 1); rw [pmul_1]; exact Cg.rfl'
  | cons r l ih =>
    show Cg f (pmul (φ r) (lprod (l.map φ))) (pmul (pmul (ppow a l.length) a) (pmul r (lprod l)))
    have h1 := (h r List.mem_cons_self).mul (ih (fun q hq => h q (List.mem_cons_of_mem _ hq)))
    refine h1.trans (Cg.of_eq ?_)
    rw [pmul_comm (ppow a l.length) a, pmul_assoc, pmul_assoc, pmul_lc r]
theorem lprod_nd {f : Nat} (hf : Irr f) (l : List Nat) (h : ∀ r ∈ l, ¬ Dv f r) : ¬ Dv f (lprod l) := by
  induction l with
  | nil => intro hd; have := Dv.eq1 hd; have := hf.1; omega
  | cons r l ih =>
    intro hd
    rcases hf.prime hd with h1 | h1
    · exact h r List.mem_cons_self h1
    · exact ih (fun q hq => h q (List.mem_cons_of_mem _ hq)) h1
theorem Irr.dgpos {f d : Nat} (hf : Irr f) (hd : Dg f d) : 1 ≤ d := by
  rcases Nat.eq_zero_or_pos d with rfl | h
  · have := hd.2; have := hf.1; simp at *; omega
  · exact h
theorem fermat1 {f d a : Nat} (hf : Irr f) (hd : Dg f d) (ha : ¬ Dv f a) : Cg f (ppow a (2 ^ d - 1)) 1 := by
  have hp : 0 < 2 ^ d := Nat.two_pow_pos d
  let L := List.range' 1 (2 ^ d - 1)
  have hL : ∀ r, r ∈ L ↔ 1 ≤ r ∧ r < 2 ^ d := by
    intro r
    show r ∈ List.range' 1 (2 ^ d - 1) ↔ _
    rw [List.mem_range'_1]; omega
  have hnd : ∀ r ∈ L, ¬ Dv f r := by
    intro r hr h
    have := (hL r).mp hr
    have := h.small hd this.2
    omega
  let φ := fun r => pmod (pmul a r) f
  have hφ : ∀ r ∈ L, Cg f (φ r) (pmul a r) := fun r _ => pmod_cg _ _
  have hin : ∀ b ∈ L.map φ, b ∈ L := by
    intro b hb
    obtain ⟨r, hr, rfl⟩ := List.mem_map.mp hb
    rw [hL]
    refine ⟨?_, pmod_lt hd _⟩
    rcases Nat.eq_zero_or_pos (φ r) with h0 | h0
    · have := (pmod_dv hf.pos).mp h0
      exact ((hf.prime this).elim ha (hnd r hr)).elim
    · exact h0
  have hndp : (L.map φ).Nodup := by
    have h0 : L.Nodup := List.nodup_range'
    unfold List.Nodup at h0 ⊢
    rw [List.pairwise_map]
    refine List.Pairwise.imp_of_mem (fun {r q} hr hq hne he => hne ?_) h0
    have e1 : Cg f (pmul r a) (pmul q a) := by
      rw [pmul_comm r, pmul_comm q]
      exact ((hφ r hr).symm.trans (Cg.of_eq he)).trans (hφ q hq)
    have e2 := hf.canc ha e1
    exact e2.uniq hd ((hL r).mp hr).2 ((hL q).mp hq).2
  have hperm : (L.map φ).Perm L := perm_of_sub hndp hin (by simp)
  have h1 := lprod_map L hφ
  rw [lprod_perm hperm] at h1
  have hlen : L.length = 2 ^ d - 1 := List.length_range'
  rw [hlen] at h1
  refine (hf.canc (c := lprod L) (lprod_nd hf L hnd) ?_).symm
  rw [pmul_1l]
  exact h1
theorem fermat {f d : Nat} (hf : Irr f) (hd : Dg f d) (a : Nat) : Cg f (ppow a (2 ^ d)) a := by
  have hp : 0 < 2 ^ d := Nat.two_pow_pos d
  by_cases ha : Dv f a
  · have h0 : Cg f a 0 := cg_0.mpr ha
    have := h0.pow (2 ^ d)
    rw [ppow_zero hp] at this
    exact this.trans h0.symm
  · have := (fermat1 hf hd ha).mul (Cg.rfl' (m := f) (a := a))
    rw [pmul_1l] at this
    have e : ppow a (2 ^ d) = pmul (ppow a (2 ^ d - 1)) a := by
      conv => lhs; rw [show 2 ^ d = (2 ^ d - 1) + 1 by omega]
      rfl
    rw [e]; exact this
/-- polynomials over the field: rows of coefficients, the lowest first -/
def pev (c : List Nat) (y : Nat) : Nat := c.foldr (fun k r => k ^^^ pmul y r) 0
theorem pev_cons (k : Nat) (c : List Nat) (y : Nat) : pev (k :: c) y = k ^^^ pmul y (pev c y) := rfl
def padd : List Nat → List Nat → List Nat
  | [], d => d
  | c, [] => c
  | a :: c, b :: d => (a ^^^ b) :: padd c d
theorem padd_nil (c : List Nat) : padd c [] = c := by cases c <;> rfl
theorem pev_add : ∀ (c d : List Nat) (y : Nat), pev (padd c d) y = pev c y ^^^ pev d y
  | [], d, y => by show pev d y = 0 ^^^ _; rw [Nat.zero_xor]
  | a :: c, [], y => by show pev (a :: c) y = _ ^^^ 0; rw [Nat.xor_zero]
  | a :: c, b :: d, y => by
    show pev ((a ^^^ b) :: padd c d) y = _
    rw [pev_cons, pev_cons, pev_cons, pev_add c d y, pmul_xr, xswap]
theorem pev_map (a : Nat) (c : List Nat) (y : Nat) : pev (c.map (pmul a)) y = pmul a (pev c y) := by
  induction c with
  | nil => exact (pmul_0 a).symm
  | cons k c ih => rw [List.map_cons, pev_cons, pev_cons, ih, pmul_xr, pmul_lc]
def pquo (a : Nat) : List Nat → List Nat
  | [] => []
  | _ :: c => padd c ((pquo a c).map (pmul a))
theorem pquo_spec (a y : Nat) : ∀ c : List Nat, pev c y ^^^ pev c a = pmul (y ^^^ a) (pev (pquo a c) y)
  | [] => by show 0 ^^^ 0 = pmul _ 0; rw [pmul_0]; rfl
  | k :: c => by
    show pev (k :: c) y ^^^ pev (k :: c) a = pmul (y ^^^ a) (pev (padd c ((pquo a c).map (pmul a))) y)
    rw [pev_cons, pev_cons, pev_add, pev_map, pmul_xr, pmul_lc (y ^^^ a) a, ← pquo_spec a y c, pmul_xl, pmul_xr, xswap, Nat.xor_self, Nat.zero_xor]
    rw [Nat.xor_assoc, ← Nat.xor_assoc (pmul a (pev c y)), Nat.xor_self, Nat.zero_xor]
theorem padd_len : ∀ (c d : List Nat), d.length < c.length → (padd c d).length = c.length ∧ (padd c d).getLast? = c.getLast?
  | [], d, h => by simp at h
  | a :: c, [], _ => ⟨rfl, rfl⟩
  | a :: c, b :: d, h => by
    have h1 := padd_len c d (by simpa using h)
    have hc : 0 < c.length := by simp at h; omega
    refine ⟨by show (padd c d).length + 1 = c.length + 1; rw [h1.1], ?_⟩
    show ((a ^^^ b) :: padd c d).getLast? = (a :: c).getLast?
    have e1 : padd c d ≠ [] := fun e => by have := h1.1; rw [e] at this; simp at this; omega
    have e2 : c ≠ [] := fun e => by rw [e] at hc; simp at hc
    rw [List.getLast?_cons, List.getLast?_cons, h1.2]
    cases hcl : c.getLast? with
    | none => exact absurd (List.getLast?_eq_none_iff.mp hcl) e2
    | some t => rfl
theorem pquo_len (a : Nat) : ∀ (c : List Nat), (pquo a c).length = c.length - 1
  | [] => rfl
  | [k] => rfl
  | k :: k2 :: c => by
    have h1 := pquo_len a (k2 :: c)
    show (padd (k2 :: c) ((pquo a (k2 :: c)).map (pmul a))).length = _
    rw [(padd_len _ _ (by simp [h1])).1]
    simp
theorem pquo_last (a k : Nat) {c : List Nat} (hc : c ≠ []) : (pquo a (k :: c)).getLast? = c.getLast? := by
  show (padd c ((pquo a c).map (pmul a))).getLast? = _
  refine (padd_len _ _ ?_).2
  rw [List.length_map, pquo_len]
  have : 0 < c.length := List.length_pos_iff.mpr hc
  omega
/-- not more roots than the degree -/
theorem roots {f : Nat} (hf : Irr f) : ∀ (rs : List Nat) (c : List Nat) (t : Nat), rs.Pairwise (fun a b => ¬ Cg f a b) → (∀ r ∈ rs, Dv f (pev c r)) → c.getLast? = some t → c.length ≤ rs.length → Dv f t
  | [], c, t, _, _, ht, hl => by
    have : c = [] := List.eq_nil_of_length_eq_zero (by simpa using hl)
    subst this; cases ht
  | r :: rs, [], t, _, _, ht, _ => by cases ht
  | r :: rs, [k], t, _, hr, ht, _ => by
    have := hr r List.mem_cons_self
    rw [pev_cons] at this
    have e : pev [] r = 0 := rfl
    rw [e, pmul_0, Nat.xor_zero] at this
    cases ht
    exact this
  | r :: rs, k :: k2 :: c, t, hp, hr, ht, hl => by
    obtain ⟨hp1, hp2⟩ := List.pairwise_cons.mp hp
    refine roots hf rs (pquo r (k :: k2 :: c)) t hp2 ?_ ?_ ?_
    · intro q hq
      have h1 := (hr q (List.mem_cons_of_mem _ hq)).xor (hr r List.mem_cons_self)
      rw [pquo_spec] at h1
      rcases hf.prime h1 with h2 | h2
      · exact absurd (Cg.symm h2) (hp1 q hq)
      · exact h2
    · rw [pquo_last r k (by simp)]
      rw [List.getLast?_cons] at ht
      simpa [List.getLast?_cons] using ht
    · rw [pquo_len]; simp at hl ⊢; omega
/-- a row of coefficients for y^n -/
def pmono (n : Nat) : List Nat := List.replicate n 0 ++ [1]
theorem pev_mono (n y : Nat) : pev (pmono n) y = ppow y n := by
  induction n with
  | zero => show 1 ^^^ pmul y 0 = 1; rw [pmul_0]; rfl
  | succ n ih =>
    show pev (0 :: pmono n) y = _
    rw [pev_cons, ih, Nat.zero_xor, pmul_comm]; rfl
theorem pmono_len (n : Nat) : (pmono n).length = n + 1 := by simp [pmono]
theorem pmono_last (n : Nat) : (pmono n).getLast? = some 1 := by simp [pmono]
/-- all residues are different -/
theorem res_pw {f d : Nat} (hd : Dg f d) : (List.range (2 ^ d)).Pairwise (fun a b => ¬ Cg f a b) := by
  have h0 : (List.range (2 ^ d)).Nodup := List.nodup_range
  unfold List.Nodup at h0
  refine List.Pairwise.imp_of_mem (fun {a b} ha hb hne hc => hne ?_) h0
  exact hc.uniq hd (List.mem_range.mp ha) (List.mem_range.mp hb)
theorem all_fix {f k : Nat} (h : Cg f (ppow 2 (2 ^ k)) 2) (a : Nat) : Cg f (ppow a (2 ^ k)) a := by
  refine bin_ind (P := fun a => Cg f (ppow a (2 ^ k)) a) ?_ ?_ ?_ a
  · rw [ppow_zero (Nat.two_pow_pos k)]; exact Cg.rfl'
  · intro b hb
    rw [← pmul_2r, ppow_mulb]
    exact hb.mul h
  · intro b hb
    rw [x1, frob, ppow_one, ← pmul_2r, ppow_mulb]
    exact Cg.rfl'.xor (hb.mul h)
theorem ddf_hi {f e d : Nat} (hf : Irr f) (he : Dg f e) (hd : 1 ≤ d) (hlt : d < e) : ¬ Dv f (ppow 2 (2 ^ d) ^^^ 2) := by
  intro h
  have hall := all_fix (f := f) (k := d) h
  have h1 : 2 ≤ 2 ^ d := by have := pow_le_of_le hd; simpa using this
  have h2 : 2 ^ (d + 1) ≤ 2 ^ e := pow_le_of_le hlt
  have h3 : 2 ^ (d + 1) = 2 ^ d + 2 ^ d := by rw [Nat.pow_succ]; omega
  have hl := padd_len (pmono (2 ^ d)) [0, 1] (by rw [pmono_len]; simp; omega)
  have := roots hf (List.range (2 ^ e)) (padd (pmono (2 ^ d)) [0, 1]) 1 (res_pw he) ?_ (by rw [hl.2, pmono_last]) (by rw [hl.1, pmono_len, List.length_range]; omega)
  · have := Dv.eq1 this; have := hf.1; omega
  · intro r _
    rw [pev_add, pev_mono]
    have e1 : pev [0, 1] r = r := by
      rw [pev_cons, pev_cons]
      have e : pev [] r = 0 := rfl
      rw [e, pmul_0, Nat.xor_zero, pmul_1, Nat.zero_xor]
    rw [e1]
    exact hall r
theorem ddf_eq {f d : Nat} (hf : Irr f) (hd : Dg f d) : Dv f (ppow 2 (2 ^ d) ^^^ 2) := fermat hf hd 2
/-- the trace -/
def ptr (a : Nat) : Nat → Nat
  | 0 => 0
  | d + 1 => ptr a d ^^^ ppow a (2 ^ d)
theorem ptr_add (a b d : Nat) : ptr (a ^^^ b) d = ptr a d ^^^ ptr b d := by
  induction d with
  | zero => show 0 = 0 ^^^ 0; rfl
  | succ d ih => show ptr _ d ^^^ _ = (_ ^^^ _) ^^^ (_ ^^^ _); rw [ih, frob, xswap]
theorem ptr_0 (d : Nat) : ptr 0 d = 0 := by
  induction d with
  | zero => rfl
  | succ d ih => show ptr 0 d ^^^ ppow 0 (2 ^ d) = 0; rw [ih, ppow_zero (Nat.two_pow_pos d)]; rfl
theorem ptr_sq (a d : Nat) : pmul (ptr a d) (ptr a d) = ptr a d ^^^ a ^^^ ppow a (2 ^ d) := by
  induction d with
  | zero => show pmul 0 0 = 0 ^^^ a ^^^ ppow a 1; rw [ppow_1, pmul_0, Nat.zero_xor, Nat.xor_self]
  | succ d ih =>
    show pmul (ptr a d ^^^ ppow a (2 ^ d)) (ptr a d ^^^ ppow a (2 ^ d)) = (ptr a d ^^^ ppow a (2 ^ d)) ^^^ a ^^^ ppow a (2 ^ (d + 1))
    rw [pmul_sq, ih, ppow_sq]
    ac_rfl
theorem Cg.tr {m a b : Nat} (h : Cg m a b) (d : Nat) : Cg m (ptr a d) (ptr b d) := by
  induction d with
  | zero => exact Cg.rfl'
  | succ d ih => exact ih.xor (h.pow _)
theorem ptr_01 {f d : Nat} (hf : Irr f) (hd : Dg f d) (a : Nat) : Cg f (ptr a d) 0 ∨ Cg f (ptr a d) 1 := by
  have h1 : Dv f (pmul (ptr a d) (ptr a d ^^^ 1)) := by
    rw [pmul_xr, pmul_1, ptr_sq]
    have := fermat hf hd a
    unfold Cg at this
    have e : ptr a d ^^^ a ^^^ ppow a (2 ^ d) ^^^ ptr a d = ppow a (2 ^ d) ^^^ a := by
      rw [Nat.xor_assoc (ptr a d), Nat.xor_comm (ptr a d), Nat.xor_assoc, Nat.xor_self, Nat.xor_zero, Nat.xor_comm]
    rw [e]; exact this
  rcases hf.prime h1 with h | h
  · exact Or.inl (cg_0.mpr h)
  · exact Or.inr h
theorem ptr_ex {f d : Nat} (hf : Irr f) (hd : Dg f d) : ∃ a, Cg f (ptr a d) 1 := by
  apply Classical.byContradiction
  intro hn
  have hall : ∀ a, Dv f (ptr a d) := fun a => by
    rcases ptr_01 hf hd a with h | h
    · exact cg_0.mp h
    · exact absurd ⟨a, h⟩ hn
  have hrow : ∀ d : Nat, ∃ c : List Nat, (∀ y, pev c y = ptr y (d + 1)) ∧ c.length = 2 ^ d + 1 ∧ c.getLast? = some 1 := by
    intro d
    induction d with
    | zero => exact ⟨[0, 1], fun y => by
        rw [pev_cons, pev_cons]
        have e : pev [] y = 0 := rfl
        rw [e, pmul_0, Nat.xor_zero, pmul_1, Nat.zero_xor]
        show y = 0 ^^^ ppow y 1
        rw [ppow_1, Nat.zero_xor], rfl, rfl⟩
    | succ d ih =>
      obtain ⟨c, h1, h2, h3⟩ := ih
      have hlt : 2 ^ d < 2 ^ (d + 1) := pow_lt_of_lt (by omega)
      have hl := padd_len (pmono (2 ^ (d + 1))) c (by rw [pmono_len, h2]; omega)
      refine ⟨padd (pmono (2 ^ (d + 1))) c, fun y => ?_, by rw [hl.1, pmono_len], by rw [hl.2, pmono_last]⟩
      rw [pev_add, pev_mono, h1, Nat.xor_comm]; rfl
  obtain ⟨e, rfl⟩ : ∃ e, d = e + 1 := ⟨d - 1, by have := hf.dgpos hd; omega⟩
  obtain ⟨c, h1, h2, h3⟩ := hrow e
  have h4 : 2 ^ (e + 1) = 2 ^ e + 2 ^ e := by rw [Nat.pow_succ]; omega
  have h5 : 0 < 2 ^ e := Nat.two_pow_pos e
  have := roots hf (List.range (2 ^ (e + 1))) c 1 (res_pw hd) (fun r _ => by rw [h1]; exact hall r) h3 (by rw [h2, List.length_range]; omega)
  have := Dv.eq1 this; have := hf.1; omega
/-- the derivative -/
def pderF : Nat → Nat → Nat
  | 0, _ => 0
  | n + 1, a => (a / 2) ^^^ (2 * pderF n (a / 2))
def pder (a : Nat) : Nat := pderF a a
theorem pderF_0 (n : Nat) : pderF n 0 = 0 := by
  induction n with
  | zero => rfl
  | succ n ih => simp [pderF, ih]
theorem pderF_fuel : ∀ (n m a : Nat), a ≤ n → a ≤ m → pderF n a = pderF m a := by
  intro n
  induction n with
  | zero =>
    intro m a h1 h2
    have : a = 0 := by omega
    subst this; rw [pderF_0, pderF_0]
  | succ n ih =>
    intro m a h1 h2
    cases m with
    | zero =>
      have : a = 0 := by omega
      subst this; rw [pderF_0, pderF_0]
    | succ m => simp only [pderF]; rw [ih m (a / 2) (by omega) (by omega)]
theorem pder_rec (a : Nat) : pder a = (a / 2) ^^^ (2 * pder (a / 2)) := by
  cases a with
  | zero => rfl
  | succ a =>
    unfold pder
    rw [show pderF (a + 1) (a + 1) = ((a + 1) / 2) ^^^ (2 * pderF a ((a + 1) / 2)) from rfl]
    rw [pderF_fuel a ((a + 1) / 2) ((a + 1) / 2) (by omega) (Nat.le_refl _)]
theorem pder_2 (b : Nat) : pder (2 * b) = b ^^^ (2 * pder b) := by rw [pder_rec, x2d]
theorem pder_21 (b : Nat) : pder (2 * b + 1) = b ^^^ (2 * pder b) := by rw [pder_rec, show (2 * b + 1) / 2 = b by omega]
theorem pder_x (a b : Nat) : pder (a ^^^ b) = pder a ^^^ pder b := by
  induction a using Nat.strongRecOn generalizing b with
  | _ a ih =>
    rcases Nat.eq_zero_or_pos a with rfl | ha
    · rw [Nat.zero_xor]; show _ = 0 ^^^ _; rw [Nat.zero_xor]
    · rw [pder_rec (a ^^^ b), pder_rec a, pder_rec b, Nat.xor_div_two, ih (a / 2) (by omega), x2, xswap]
theorem pder_mul (a b : Nat) : pder (pmul a b) = pmul (pder a) b ^^^ pmul a (pder b) := by
  refine bin_ind (P := fun b => pder (pmul a b) = pmul (pder a) b ^^^ pmul a (pder b)) ?_ ?_ ?_ b
  · rw [pmul_0, pmul_0]; show 0 = 0 ^^^ pmul a 0; rw [pmul_0]; rfl
  · intro b h
    rw [pmul_even, pder_2, h, pder_2, pmul_xr, pmul_even, pmul_even, x2]
    ac_rfl
  · intro b h
    rw [pmul_odd, pder_x, pder_2, h, pder_21, pmul_xr, pmul_even, x1, pmul_xr, pmul_1, pmul_even, x2]
    ac_rfl
theorem pder_sq (a : Nat) : pder (pmul a a) = 0 := by rw [pder_mul, pmul_comm, Nat.xor_self]
theorem pder_dv {f h : Nat} (hd : Dv (pmul f f) h) : Dv f (pder h) := by
  obtain ⟨q, rfl⟩ := hd
  rw [pder_mul, pder_sq, pmul_0, Nat.xor_zero]
  exact (((Dv.rfl' f).mull f)).mull _
theorem ddf_sq {f d : Nat} (hf : Irr f) (hd : 1 ≤ d) : ¬ Dv (pmul f f) (ppow 2 (2 ^ d) ^^^ 2) := by
  intro h
  have h1 := pder_dv h
  obtain ⟨e, rfl⟩ : ∃ e, d = e + 1 := ⟨d - 1, by omega⟩
  rw [pder_x, ppow_sq, pder_sq, Nat.zero_xor, show pder 2 = 1 from rfl] at h1
  have := h1.eq1; have := hf.1; omega

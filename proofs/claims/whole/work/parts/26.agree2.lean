/-! ===== both sides answer alike: tail, form, added, addedJoined ===== -/
def dn (G r : Nat) : Nat := (if r % 2 = 1 then r ^^^ G else r) / 2
theorem dn_lt {G w r : Nat} (hG : Dg G w) (hr : r < 2 ^ w) : dn G r < 2 ^ w := by
  unfold dn
  have h2 : 2 ^ (w + 1) = 2 ^ w + 2 ^ w := by rw [Nat.pow_succ]; omega
  split
  · have := Nat.xor_lt_two_pow (show r < 2 ^ (w + 1) by omega) hG.2
    omega
  · omega
theorem lA1e {a : Nat} : (lN a &&& (1 : Int64)) = (0 : Int64) ↔ a % 2 = 0 := by
  rw [lA1, lE0 (by omega)]
theorem lA1o {a : Nat} : (lN a &&& (1 : Int64)) = (1 : Int64) ↔ a % 2 = 1 := by
  rw [lA1, show (1 : Int64) = lN 1 from rfl, lEq (by omega) (by decide)]
theorem sX1_down {N G w r : Nat} (hG : Dg G w) (hw : w ≤ 32) (hr : r < 2 ^ w) : fX1_movedDown N (lN G) (lN r) = some (lN (dn G r)) := by
  have h2 : 2 ^ (w + 1) ≤ 2 ^ 33 := pow_le_of_le (by omega)
  have h3 : 2 ^ (w + 1) = 2 ^ w + 2 ^ w := by rw [Nat.pow_succ]; omega
  have hx := Nat.xor_lt_two_pow (show r < 2 ^ (w + 1) by omega) hG.2
  unfold fX1_movedDown dn
  by_cases h : r % 2 = 1
  · rw [if_neg (fun e => by have := lA1e.mp e; omega), if_pos h, lX, show (1 : Int32) = nI 1 from rfl, lUs (by omega) (by decide), Nat.pow_one]
  · rw [if_pos (lA1e.mpr (by omega)), if_neg h, show (1 : Int32) = nI 1 from rfl, lUs (by omega) (by decide), Nat.pow_one]
theorem sX6_down {N f w P r : Nat} {mW : Nat → Int32} {mP : Nat → Int64} (hf : f < 8) (hW : mW f = nI w) (hQ : mP f = lN P) (hw1 : 1 ≤ w) (hw : w ≤ 32) (hP : P < 2 ^ w) (hr : r < 2 ^ w) : fX6_down N mW mP (nI f) (lN r) = some (lN (dn (2 ^ w ^^^ P) r)) := by
  have ho : ¬ OOB (nI f) 8 := oob_nI hf (by decide)
  have hw32 : 2 ^ w ≤ 2 ^ 32 := pow_le_of_le hw
  have hx := Nat.xor_lt_two_pow hr hP
  have h2 : 2 ^ w = 2 * 2 ^ (w - 1) := by conv => lhs; rw [show w = (w - 1) + 1 by omega, Nat.pow_succ]; rw [Nat.mul_comm]
  unfold fX6_down dn
  simp only [if_neg ho, nCl (show f < 2 ^ 31 by omega), hW, hQ]
  by_cases h : r % 2 = 1
  · rw [if_pos (lA1o.mpr h), if_pos h, lX, show (1 : Int32) = nI 1 from rfl, lSr (by omega) (by decide), nSub hw1, show (1 : Int64) = lN 1 from rfl, lSh 1 (by omega), lO, Nat.one_mul, Nat.pow_one, Nat.or_comm, or_xor (by omega)]
    have e : (r ^^^ (2 ^ w ^^^ P)) / 2 = 2 ^ (w - 1) ^^^ ((r ^^^ P) / 2) := by
      rw [← Nat.xor_assoc, Nat.xor_comm r, Nat.xor_assoc, Nat.xor_div_two]
      congr 1
      omega
    rw [e]
  · rw [if_neg (fun e => h (lA1o.mp e)), if_neg h, show (1 : Int32) = nI 1 from rfl, lSr (by omega) (by decide), Nat.pow_one]
def dnI (G : Nat) : Nat → Nat → Nat
  | 0, r => r
  | j + 1, r => dnI G j (dn G r)
theorem dnI_lt {G w : Nat} (hG : Dg G w) : ∀ (j r : Nat), r < 2 ^ w → dnI G j r < 2 ^ w
  | 0, _, h => h
  | j + 1, _, h => dnI_lt hG j _ (dn_lt hG h)
theorem sX1_ob_L {N G w x1 : Nat} {ri : Int32} {k : Int64 → Option Int64} (hG : Dg G w) (hw : w ≤ 32) : ∀ (j n c r : Nat), j < n → c + j = w → r < 2 ^ w → fX1_octetsBetween_L6 N (nI w) (lN G) ri (lN x1) k n (lN r) (nI c) = k (lN (dnI G j r)) := by
  intro j
  induction j with
  | zero =>
    intro n c r hn hc hr
    obtain ⟨n, rfl⟩ : ∃ z, n = z + 1 := ⟨n - 1, by omega⟩
    have : c = w := by omega
    subst this
    rw [fX1_octetsBetween_L6_s, fX1_octetsBetween_B6, if_pos (nI_le (Nat.le_refl _) (by omega))]; rfl
  | succ j ih =>
    intro n c r hn hc hr
    obtain ⟨n, rfl⟩ : ∃ z, n = z + 1 := ⟨n - 1, by omega⟩
    rw [fX1_octetsBetween_L6_s, fX1_octetsBetween_B6, if_neg (nI_ge (by omega) (by omega)), sX1_down hG hw hr, Option.bind_some, nI_1]
    exact ih n (c + 1) _ (by omega) (by omega) (dn_lt hG hr)
theorem sX6_tail_L47 {N f w P x2 : Nat} {mC : Int32} {mW mI mO : Nat → Int32} {mP mE : Nat → Int64} {k : Int64 → Option Int64} (hf : f < 8) (hW : mW f = nI w) (hQ : mP f = lN P) (hw1 : 1 ≤ w) (hw : w ≤ 32) (hP : P < 2 ^ w) : ∀ (j n c r : Nat), j < n → c + j = w → r < 2 ^ w → fX6_tail_L47 N mC mW mP mE mI mO (nI f) (lN x2) k n (lN r) (nI c) = k (lN (dnI (2 ^ w ^^^ P) j r)) := by
  intro j
  have hG := gq_dg hP
  have ho : ¬ OOB (nI f) 8 := oob_nI hf (by decide)
  induction j with
  | zero =>
    intro n c r hn hc hr
    obtain ⟨n, rfl⟩ : ∃ z, n = z + 1 := ⟨n - 1, by omega⟩
    have : c = w := by omega
    subst this
    rw [fX6_tail_L47_s, fX6_tail_B47]
    simp only [if_neg ho, nCl (show f < 2 ^ 31 by omega), hW]
    rw [if_pos (nI_le (Nat.le_refl _) (by omega))]; rfl
  | succ j ih =>
    intro n c r hn hc hr
    obtain ⟨n, rfl⟩ : ∃ z, n = z + 1 := ⟨n - 1, by omega⟩
    rw [fX6_tail_L47_s, fX6_tail_B47]
    simp only [if_neg ho, nCl (show f < 2 ^ 31 by omega), hW]
    rw [if_neg (nI_ge (by omega) (by omega)), sX6_down hf hW hQ hw1 hw hP hr, Option.bind_some, nI_1]
    exact ih n (c + 1) _ (by omega) (by omega) (dn_lt hG hr)
/-- octets of a number, each turned or not, together again -/
def og (ri : Int32) (o : Nat) : Nat := if ri = 0 then o else rv o 8
def osm (ri : Int32) (b : Nat) : Nat → Nat
  | 0 => 0
  | m + 1 => osm ri b m + og ri (b / 2 ^ (8 * m) % 256) * 2 ^ (8 * m)
theorem og_lt {ri : Int32} {o : Nat} (h : o < 256) : og ri o < 256 := by
  unfold og
  split
  · exact h
  · exact rv_lt o 8
theorem osm_lt (ri : Int32) (b : Nat) : ∀ m, osm ri b m < 2 ^ (8 * m)
  | 0 => by simp [osm]
  | m + 1 => by
    have h1 := osm_lt ri b m
    have h2 : og ri (b / 2 ^ (8 * m) % 256) ≤ 255 := by have := og_lt (ri := ri) (Nat.mod_lt (b / 2 ^ (8 * m)) (by decide : 0 < 256)); omega
    have h3 := Nat.mul_le_mul_right (2 ^ (8 * m)) h2
    simp only [osm]
    rw [show 8 * (m + 1) = 8 * m + 8 by omega, Nat.pow_add]
    omega
theorem osm_id (b : Nat) : ∀ m, osm 0 b m = b % 2 ^ (8 * m)
  | 0 => by simp [osm, Nat.mod_one]
  | m + 1 => by
    simp only [osm, og, if_true]
    rw [osm_id b m, show 8 * (m + 1) = 8 * m + 8 by omega, Nat.pow_add, Nat.mod_mul, show 2 ^ 8 = 256 from rfl, Nat.mul_comm (2 ^ (8 * m))]
theorem add_or {a t k : Nat} (h : a < 2 ^ k) : a ||| t * 2 ^ k = a + t * 2 ^ k := by
  rw [Nat.or_comm, Nat.mul_comm, ← Nat.two_pow_add_eq_or_of_lt h, Nat.add_comm]
theorem l255 {b j : Nat} (hb : b < 2 ^ 63) (hj : j < 64) : lUsh (lN b) (nI j) &&& (255 : Int64) = lN (b / 2 ^ j % 256) := by
  rw [lUs (by omega) hj, show (255 : Int64) = lN 255 from rfl, lA, show (255 : Nat) = 2 ^ 8 - 1 from rfl, Nat.and_two_pow_sub_one_eq_mod]
theorem l255r {b j : Nat} (hb : b < 2 ^ 63) (hj : j < 64) : lShr (lN b) (nI j) &&& (255 : Int64) = lN (b / 2 ^ j % 256) := by
  rw [lSr hb hj, show (255 : Int64) = lN 255 from rfl, lA, show (255 : Nat) = 2 ^ 8 - 1 from rfl, Nat.and_two_pow_sub_one_eq_mod]
theorem sX1_tbo_L {N m b : Nat} {ri : Int32} {k : Int64 → Option Int64} (hN : Big N) (hri : ¬ ri = 0) (hm : m ≤ 4) (hb : b < 2 ^ 63) : ∀ (j n c : Nat), j < n → c + j = m → fX1_turnedByOctets_L5 N (nI (8 * m)) (lN b) k n (lN (osm ri b c)) (nI (8 * c)) = k (lN (osm ri b m)) := by
  intro j
  induction j with
  | zero =>
    intro n c hn hc
    obtain ⟨n, rfl⟩ : ∃ z, n = z + 1 := ⟨n - 1, by omega⟩
    have : c = m := by omega
    subst this
    rw [fX1_turnedByOctets_L5_s, fX1_turnedByOctets_B5, if_pos (nI_le (Nat.le_refl _) (by omega))]
  | succ j ih =>
    intro n c hn hc
    obtain ⟨n, rfl⟩ : ∃ z, n = z + 1 := ⟨n - 1, by omega⟩
    have hm8 : b / 2 ^ (8 * c) % 256 < 256 := Nat.mod_lt _ (by decide)
    rw [fX1_turnedByOctets_L5_s, fX1_turnedByOctets_B5, if_neg (nI_ge (by omega) (by omega)), l255 hb (by omega), show (8 : Int32) = nI 8 from rfl, sX1_turned hN (by omega) (by decide), Option.bind_some, lSh _ (by omega), lO, add_or (osm_lt ri b c), nI_add, show 8 * c + 8 = 8 * (c + 1) by omega]
    have := ih n (c + 1) (by omega) (by omega)
    simp only [osm, og, if_neg hri] at this
    exact this
theorem sX1_ob {N G w r1 r2 : Nat} {ri : Int32} (hN : Big N) (hG : Dg G w) (hw : w ≤ 32) (h8 : w % 8 = 0) (hr1 : r1 < 2 ^ w) (hr2 : r2 < 2 ^ w) : fX1_octetsBetween N (nI w) (lN G) ri (lN r1) (lN r2) = some (lN (osm ri (dnI G w r2 ^^^ r1) (w / 8))) := by
  unfold fX1_octetsBetween
  have hN' : 2 ^ 36 ≤ N := hN
  have hw32 : 2 ^ w ≤ 2 ^ 32 := pow_le_of_le hw
  have hb := Nat.xor_lt_two_pow (dnI_lt hG w r2 hr2) hr1
  have e8 : w = 8 * (w / 8) := by omega
  have hl := sX1_ob_L (N := N) (x1 := r1) (ri := ri) (k := fun x5_4 => (if ri = 0 then (some (x5_4 ^^^ lN r1)) else ((fX1_turnedByOctets N (nI w) (x5_4 ^^^ lN r1)).bind (fun r_6 => (some r_6))))) hG hw w N 0 r2 (by omega) (by omega) hr2
  refine hl.trans ?_
  by_cases h : ri = 0
  · rw [if_pos h, lX]
    subst h
    rw [osm_id, ← e8, Nat.mod_eq_of_lt hb]
  · rw [if_neg h, lX]
    unfold fX1_turnedByOctets
    have := sX1_tbo_L (N := N) (m := w / 8) (b := dnI G w r2 ^^^ r1) (ri := ri) (k := fun x => some x) hN h (by omega) (by omega) (w / 8) N 0 (by omega) (by omega)
    rw [← e8] at this
    have e0 : (osm ri (dnI G w r2 ^^^ r1) 0) = 0 := rfl
    rw [e0, Nat.mul_zero] at this
    rw [show (0 : Int64) = lN 0 from rfl, show (0 : Int32) = nI 0 from rfl, this, Option.bind_some]
theorem n8s (j : Nat) : nI (8 * (j + 1)) - 8 = nI (8 * j) := by
  rw [show (8 : Int32) = nI 8 from rfl, nSub (by omega)]; congr 1
theorem n8n (x : Int32) : x + (-8 : Int32) = x - 8 := (Int32.sub_eq_add_neg x 8).symm
theorem sX6_tail_L98 {N f b T : Nat} {ri mC : Int32} {mW mI mO : Nat → Int32} {mP mE : Nat → Int64} {k : Int64 → Option Int64} (hN : Big N) (hf : f < 8) (hI : mI f = ri) (hb : b < 2 ^ 63) : ∀ (j n R : Nat), j < n → j ≤ 4 → osm ri b j + R * 2 ^ (8 * j) = T → fX6_tail_L98 N mC mW mP mE mI mO (nI f) (lN b) k n (lN R) (nI (8 * j) - 8) = k (lN T) := by
  intro j
  have ho : ¬ OOB (nI f) 8 := oob_nI hf (by decide)
  induction j with
  | zero =>
    intro n R hn _ h
    obtain ⟨n, rfl⟩ : ∃ z, n = z + 1 := ⟨n - 1, by omega⟩
    rw [fX6_tail_L98_s, fX6_tail_B98, if_pos (by decide)]
    have : R = T := by simpa [osm] using h
    rw [this]
  | succ j ih =>
    intro n R hn hj h
    obtain ⟨n, rfl⟩ : ∃ z, n = z + 1 := ⟨n - 1, by omega⟩
    have hm8 : b / 2 ^ (8 * j) % 256 < 256 := Nat.mod_lt _ (by decide)
    have hog := og_lt (ri := ri) hm8
    have e256 : lShl (lN R) (8 : Int32) = lN (R * 256) := by rw [show (8 : Int32) = nI 8 from rfl, lSh _ (by decide)]
    have hT : osm ri b j + (R * 256 + og ri (b / 2 ^ (8 * j) % 256)) * 2 ^ (8 * j) = T := by
      rw [← h]
      simp only [osm]
      rw [show 8 * (j + 1) = 8 + 8 * j by omega, Nat.pow_add, Nat.add_mul, ← Nat.mul_assoc, show 2 ^ 8 = 256 from rfl]
      omega
    have hor : lN (R * 256) ||| lN (og ri (b / 2 ^ (8 * j) % 256)) = lN (R * 256 + og ri (b / 2 ^ (8 * j) % 256)) := by
      rw [lO, Nat.or_comm, show (256 : Nat) = 2 ^ 8 from rfl, add_or (by simpa using hog), Nat.add_comm]
    have := ih n _ (by omega) (by omega) hT
    rw [fX6_tail_L98_s, fX6_tail_B98, n8s, if_neg (n_lt0 (by omega)), n8n, e256, l255r hb (by omega)]
    simp only [if_neg ho, nCl (show f < 2 ^ 31 by omega), hI]
    by_cases hri : ri = 0
    · rw [if_pos hri]
      have e : og ri (b / 2 ^ (8 * j) % 256) = b / 2 ^ (8 * j) % 256 := by unfold og; rw [if_pos hri]
      rw [e] at hor this
      rw [hor]; exact this
    · rw [if_neg hri, show (8 : Int32) = nI 8 from rfl, sX6_turned hN (by omega) (by decide), Option.bind_some]
      have e : og ri (b / 2 ^ (8 * j) % 256) = rv (b / 2 ^ (8 * j) % 256) 8 := by unfold og; rw [if_neg hri]
      rw [e] at hor this
      rw [hor]; exact this
theorem ag_tail {N k : Nat} {mW mI mO : Nat → Int32} {mP mS mE : Nat → Int64} {rw ri ro : Int32} {rg rs re : Int64} (hN : Big N) (hk : k ≤ 8) (x1 : Int32) (hF : ∀ f, f < k → x1 = nI f → FR rw rg rs re ri ro (mW f) (mP f) (mS f) (mE f) (mI f) (mO f)) (x2 x4 : Int64) : ∃ r, fX5_tail N (nI k) rw rg re ri ro x1 x2 x4 = some r ∧ fX6_tail N (nI k) mW mP mE mI mO x1 x2 x4 = some r := by
  unfold fX5_tail fX6_tail
  rcases isForm_c N k hk x1 with ⟨a, b⟩ | ⟨f, hf, rfl, a, b⟩
  · exact ⟨-1, by rw [sum5_0 a]; rfl, by rw [sum6_0 b]; rfl⟩
  · obtain ⟨w, P, st, en, ⟨w1, w2⟩, ⟨p1, p2, p3, p4⟩, ⟨e1, e2, e3, e4⟩, ⟨g1, g2, g3, g4⟩, g5, g6⟩ := hF f hf rfl
    have hf8 : f < 8 := by omega
    have ho : ¬ OOB (nI f) 8 := oob_nI hf8 (by decide)
    subst e1 e2 e4
    rcases isSum_c hf8 w2 g1 a b x2 with ⟨a1, b1⟩ | ⟨s1, hs1, rfl, a1, b1⟩
    · exact ⟨-1, by rw [a1]; rfl, by rw [b1]; rfl⟩
    · rcases isSum_c hf8 w2 g1 a b x4 with ⟨a2, b2⟩ | ⟨s2, hs2, rfl, a2, b2⟩
      · exact ⟨-1, by rw [a1, a2]; rfl, by rw [b1, b2]; rfl⟩
      · have hN' : 2 ^ 36 ≤ N := hN
        have hw32 : 2 ^ w ≤ 2 ^ 32 := pow_le_of_le w2
        have r1 := rgt_lt (ro := ro) hs1 p4
        have r2 := rgt_lt (ro := ro) hs2 p4
        have hG := gq_dg p1
        have erem : iRem (nI w) (8 : Int32) = nI (w % 8) := pk_rem (by omega) (by decide) (by decide)
        simp only [a1, a2, b1, b2, Option.bind_some, if_neg ho, show ¬ (1 : Int32) = 0 by decide, if_false, nCl (show f < 2 ^ 31 by omega), g1, erem]
        by_cases h8 : w % 8 = 0
        · have e0 : nI (w % 8) = 0 := by rw [h8]; rfl
          simp only [if_pos e0]
          have hb := Nat.xor_lt_two_pow (dnI_lt hG w _ r2) r1
          refine ⟨lN (osm ri (dnI (2 ^ w ^^^ P) w (rgt w en ro s2) ^^^ rgt w en ro s1) (w / 8)), ?_, ?_⟩
          · rw [sX1_registerOf hN w2 hs1 p4, Option.bind_some, sX1_registerOf hN w2 hs2 p4, Option.bind_some, sX1_ob hN hG w2 h8 r1 r2, Option.bind_some]
          · rw [sX6_register hN hf8 g1 g4 g6 w2 hs2 p4, Option.bind_some]
            refine (sX6_tail_L47 (N := N) (x2 := s1) (k := fun x6_15 => ((fX6_register N mW mE mO (nI f) (lN s1)).bind (fun r_16 => (fX6_tail_L98 N (nI k) mW mP mE mI mO (nI f) (x6_15 ^^^ r_16) (fun x10_24 => (some x10_24)) N (0 : Int64) ((nI w) - (8 : Int32)))))) hf8 g1 g2 (by omega) w2 p1 w N 0 _ (by omega) (by omega) r2).trans ?_
            rw [sX6_register hN hf8 g1 g4 g6 w2 hs1 p4, Option.bind_some, lX]
            have := sX6_tail_L98 (N := N) (mC := nI k) (mW := mW) (mO := mO) (mP := mP) (mE := mE) (k := fun x10_24 => (some x10_24)) (T := osm ri (dnI (2 ^ w ^^^ P) w (rgt w en ro s2) ^^^ rgt w en ro s1) (w / 8)) hN hf8 g5 (show dnI (2 ^ w ^^^ P) w (rgt w en ro s2) ^^^ rgt w en ro s1 < 2 ^ 63 by omega) (w / 8) N 0 (by omega) (by omega) (by rw [Nat.zero_mul, Nat.add_zero])
            rw [show 8 * (w / 8) = w by omega] at this
            exact this
        · have e0 : ¬ nI (w % 8) = 0 := nI_ne0 (by omega) (by omega)
          simp only [if_neg e0]
          exact ⟨-1, rfl, rfl⟩
theorem ag_form {N k : Nat} {mW mI mO mK : Nat → Int32} {mP mS mE : Nat → Int64} {rw ri ro : Int32} {rg rs re : Int64} (hk : k ≤ 8) (x1 : Int32) (x2 x4 x6 : Int64) (x8 x9 : Int32) (h8 : x8 = 0 ∨ x8 = 1) (h9 : x9 = 0 ∨ x9 = 1) :
    (∃ r : Int32, fX5_form N (nI k) rw rg rs re ri ro x1 x2 x4 x6 x8 x9 = some (r, nI k, rw, rg, rs, re, ri, ro) ∧ fX6_form N (nI k) mW mP mS mE mI mO mK x1 x2 x4 x6 x8 x9 = some (r, nI k, mW, mP, mS, mE, mI, mO, mK)) ∨
    (k < 8 ∧ ∃ w P st en : Nat, (3 ≤ w ∧ w ≤ 32) ∧ (P < 2 ^ w ∧ P % 2 = 1 ∧ st < 2 ^ w ∧ en < 2 ^ w) ∧ fX5_form N (nI k) rw rg rs re ri ro x1 x2 x4 x6 x8 x9 = some (nI k, nI (k + 1), nI w, lN (2 ^ w ^^^ P), lN st, lN en, x8, x9) ∧ fX6_form N (nI k) mW mP mS mE mI mO mK x1 x2 x4 x6 x8 x9 = some (nI k, nI (k + 1), upd mW k (nI w), vp_updL mP k (lN P), vp_updL mS k (lN st), vp_updL mE k (lN en), upd mI k x8, upd mO k x9, upd mK k 0)) := by
  unfold fX5_form fX6_form
  by_cases h0 : x1 < 3
  · left; exact ⟨-1, by rw [if_pos h0], by rw [if_pos h0]⟩
  · simp only [if_neg h0]
    have h00 : ¬ x1 < 0 := by
      intro q; apply h0
      rw [Int32.lt_iff_toInt_lt] at q ⊢
      have e0 : (0 : Int32).toInt = 0 := rfl
      have e1 : (3 : Int32).toInt = 3 := rfl
      rw [e0] at q; rw [e1]; omega
    obtain ⟨w, hw31, rfl⟩ := nI_of h00
    have hw3 : 3 ≤ w := Nat.not_lt.mp (fun q => h0 (nI_lt (b := 3) q (by decide)))
    by_cases h1 : nI w ≤ 32
    · have hw : w ≤ 32 := (nI_leI (b := 32) hw31 (by decide)).mp h1
      have h1' : ¬ (32 : Int32) < nI w := fun q => by have := (nI_ltI (a := 32) (by decide) hw31).mp q; omega
      simp only [if_pos h1, if_neg h1']
      have z10 : ¬ (1 : Int32) = 0 := by decide
      rcases bits_c N w hw x2 with ⟨a1, b1⟩ | ⟨P, hP, rfl, a1, b1⟩
      · left; exact ⟨-1, by rw [a1]; rfl, by rw [b1]; rfl⟩
      · simp only [a1, b1, Option.bind_some, if_neg z10]
        by_cases hodd : P % 2 = 1
        · have o5 : ¬ (lN P &&& (1 : Int64)) = 0 := fun e => by have := lA1e.mp e; omega
          have o6 : (lN P &&& (1 : Int64)) = 1 := lA1o.mpr hodd
          simp only [if_neg o5, if_pos o6]
          rcases bits_c N w hw x4 with ⟨a2, b2⟩ | ⟨st, hst, rfl, a2, b2⟩
          · left; exact ⟨-1, by rw [a2]; rfl, by rw [b2]; rfl⟩
          · simp only [a2, b2, Option.bind_some, if_neg z10]
            rcases bits_c N w hw x6 with ⟨a3, b3⟩ | ⟨en, hen, rfl, a3, b3⟩
            · left; exact ⟨-1, by rw [a3]; rfl, by rw [b3]; rfl⟩
            · simp only [a3, b3, Option.bind_some, if_neg z10]
              by_cases hk8 : k < 8
              · right
                have c5 : nI k < (8 : Int32) := nI_lt (b := 8) hk8 (by decide)
                have c6 : ¬ nI k = (8 : Int32) := fun e => by have := (nI_eq (b := 8) (by omega) (by decide)).mp e; omega
                have hob : ¬ OOB (nI k) 8 := oob_nI hk8 (by decide)
                refine ⟨hk8, w, P, st, en, ⟨hw3, hw⟩, ⟨hP, hodd, hst, hen⟩, ?_, ?_⟩
                · simp only [if_pos c5, if_neg hob]
                  unfold fX1_become
                  rw [Option.bind_some, show (1 : Int64) = lN 1 from rfl, lSh 1 (by omega), lO, Nat.one_mul, or_xor hP, nI_1, nI_pred]
                · have z : ∀ x : Int32, x = 0 ∨ x = 1 → vp_nar .boolean x = x := by
                    intro x hx; rcases hx with rfl | rfl <;> rfl
                  simp only [if_neg c6, if_neg hob, nCl (show k < 2 ^ 31 by omega), nI_1, nI_pred, z _ h8, z _ h9, z 0 (Or.inl rfl)]
              · left
                have : k = 8 := by omega
                subst this
                exact ⟨-2, by rw [if_neg (by decide)], by rw [if_pos (by decide)]⟩
        · left
          have o5 : (lN P &&& (1 : Int64)) = 0 := lA1e.mpr (by omega)
          have o6 : ¬ (lN P &&& (1 : Int64)) = 1 := fun e => hodd (lA1o.mp e)
          simp only [if_pos o5, if_neg o6]
          refine ⟨-1, ?_, rfl⟩
          rcases bits_c N w hw x4 with ⟨a2, _⟩ | ⟨st, hst, rfl, a2, _⟩
          · rw [a2]; rfl
          · rw [a2]
            rcases bits_c N w hw x6 with ⟨a3, _⟩ | ⟨en, hen, rfl, a3, _⟩
            · rw [a3]; rfl
            · rw [a3]; rfl
    · have h1' : (32 : Int32) < nI w := nI_lt (a := 32) (Nat.not_le.mp (fun q => h1 (nI_le (b := 32) q (by decide)))) hw31
      left; exact ⟨-1, by rw [if_neg h1], by rw [if_pos h1']⟩
/-! adding sums -/
theorem add_L {N n m b : Nat} {sT mT : Nat → Int32} {x1 : Int32} {k5 : Int32 → Int32 → Option Int64} {k6 : Int64 → Int64 → Option Int64} (hn : n ≤ 600) (hT : TX n sT mT) (hm0 : 0 < m) (hm : m ≤ 65521) (hb : b ≤ n) : ∀ (j z c a q : Nat), j < z → c + j = b → a < m → q < m → ∃ a2 q2, a2 < m ∧ q2 < m ∧ fX5_added_L40 N (nI n) sT x1 (nI b) (nI m) k5 z (nI a) (nI q) (nI c) = k5 (nI a2) (nI q2) ∧ fX6_added_L49 N (nI n) mT x1 (nI b) (lN m) k6 z (lN a) (lN q) (nI c) = k6 (lN a2) (lN q2) := by
  intro j
  induction j with
  | zero =>
    intro z c a q hz hc ha hq
    obtain ⟨z, rfl⟩ : ∃ y, z = y + 1 := ⟨z - 1, by omega⟩
    have : c = b := by omega
    subst this
    refine ⟨a, q, ha, hq, ?_, ?_⟩
    · rw [fX5_added_L40_s, fX5_added_B40, if_pos (nI_le (Nat.le_refl _) (by omega))]
    · rw [fX6_added_L49_s, fX6_added_B49, if_pos (nI_le (Nat.le_refl _) (by omega))]
  | succ j ih =>
    intro z c a q hz hc ha hq
    obtain ⟨z, rfl⟩ : ∃ y, z = y + 1 := ⟨z - 1, by omega⟩
    obtain ⟨t1, o, ho, t2⟩ := hT c (by omega)
    have h1 : (a + o) % m < m := Nat.mod_lt _ hm0
    have h2 : (q + (a + o) % m) % m < m := Nat.mod_lt _ hm0
    obtain ⟨a2, q2, g1, g2, e5, e6⟩ := ih z (c + 1) _ _ (by omega) (by omega) h1 h2
    have hob : ¬ OOB (nI c) 600 := oob_nI (by omega) (by decide)
    refine ⟨a2, q2, g1, g2, ?_, ?_⟩
    · have hm00 : ¬ nI m = 0 := nI_ne0 hm0 (by omega)
      have ea : iRem (nI a + nI o) (nI m) = nI ((a + o) % m) := by rw [nI_add]; exact pk_rem (by omega) hm0 (by omega)
      have eq : iRem (nI q + nI ((a + o) % m)) (nI m) = nI ((q + (a + o) % m) % m) := by rw [nI_add]; exact pk_rem (by omega) hm0 (by omega)
      rw [fX5_added_L40_s, fX5_added_B40, if_neg (nI_ge (by omega) (by omega)), if_neg hob, if_neg hm00, if_neg hm00, nCl (by omega), t2, ea, eq, nI_1]
      exact e5
    · have hm00 : ¬ lN m = 0 := fun e => by have := (lE0 (by omega)).mp e; omega
      have ea : lRem (lN a + lN o) (lN m) = lN ((a + o) % m) := by rw [lN_add]; exact pk_lRem (by omega) hm0 (by omega)
      have eq : lRem (lN q + lN ((a + o) % m)) (lN m) = lN ((q + (a + o) % m) % m) := by rw [lN_add]; exact pk_lRem (by omega) hm0 (by omega)
      rw [fX6_added_L49_s, fX6_added_B49, if_neg (nI_ge (by omega) (by omega)), if_neg hob, if_neg hm00, if_neg hm00, nCl (by omega), t1, t2, nI_l (by omega), ea, eq, nI_1]
      exact e6
theorem what_c (N : Nat) (x : Int32) : (fX5_isAdding N x = some 0 ∧ (x < 0 ∨ (1 : Int32) < x)) ∨ ((x = 0 ∨ x = 1) ∧ fX5_isAdding N x = some 1) := by
  unfold fX5_isAdding
  by_cases h0 : x = 0
  · right; exact ⟨Or.inl h0, by rw [if_pos h0]⟩
  · rw [if_neg h0]
    by_cases h1 : x = 1
    · right; exact ⟨Or.inr h1, by rw [if_pos h1]⟩
    · left
      refine ⟨by rw [if_neg h1], ?_⟩
      rcases Int.lt_trichotomy x.toInt 0 with q | q | q
      · left; rw [Int32.lt_iff_toInt_lt]; exact q
      · exact absurd (Int32.toInt_inj.mp q) h0
      · right
        rw [Int32.lt_iff_toInt_lt]
        have e1 : (1 : Int32).toInt = 1 := rfl
        rw [e1]
        rcases Int.lt_trichotomy x.toInt 1 with z | z | z
        · omega
        · exact absurd (Int32.toInt_inj.mp z) h1
        · exact z
theorem ag_added {N n : Nat} {sT mT : Nat → Int32} (hN : Big N) (hn : n ≤ 600) (hT : TX n sT mT) (x1 x2 x3 : Int32) : ∃ r, fX5_added N (nI n) sT x1 x2 x3 = some r ∧ fX6_added N (nI n) mT x1 x2 x3 = some r := by
  unfold fX5_added fX6_added
  have hN' : 2 ^ 36 ≤ N := hN
  rcases what_c N x1 with ⟨a, h | h⟩ | ⟨h, a⟩
  · exact ⟨-1, by rw [a]; rfl, by rw [if_pos h]⟩
  · refine ⟨-1, by rw [a]; rfl, ?_⟩
    by_cases h0 : x1 < 0
    · rw [if_pos h0]
    · rw [if_neg h0, if_pos h]
  · have h0 : ¬ x1 < 0 := by rcases h with rfl | rfl <;> decide
    have h1 : ¬ (1 : Int32) < x1 := by rcases h with rfl | rfl <;> decide
    have hob : ¬ OOB x1 2 := by rcases h with rfl | rfl <;> decide
    simp only [a, if_neg h0, if_neg h1, Option.bind_some, if_neg hob, show ¬ (1 : Int32) = 0 by decide, if_false]
    rcases part_c N n hn x2 x3 with ⟨a1, b1⟩ | ⟨i, j, hij, hj, rfl, rfl, a1, b1⟩
    · exact ⟨-1, by rw [a1]; rfl, by rw [b1]; rfl⟩
    · simp only [a1, b1, Option.bind_some, show ¬ (1 : Int32) = 0 by decide, if_false]
      unfold fX6_added_J35
      rcases h with rfl | rfl
      · obtain ⟨a2, q2, g1, g2, e5, e6⟩ := add_L (N := N) (m := 65521) (x1 := 0) (k5 := fun x5_13 x6_14 => ((fX5_halves N 0 x5_13.toInt64 x6_14.toInt64).bind (fun r_15 => (some r_15)))) (k6 := fun x6_11 x8_12 => (if (0 : Int32) = 0 then (some ((x8_12 * (65536 : Int64)) + x6_11)) else (some ((x8_12 * (256 : Int64)) + x6_11)))) hn hT (by decide) (Nat.le_refl _) hj (j - i) N i 1 0 (by omega) (by omega) (by decide) (by decide)
        refine ⟨lN (q2 * 65536 + a2), e5.trans ?_, ?_⟩
        · unfold fX5_halves
          rw [if_neg hob, Option.bind_some, nI_l (by omega), nI_l (by omega), show kAH (0 : Int32).toNatClampNeg = nI 16 from rfl, lSh _ (by decide), lN_add]
        · rw [if_pos rfl]
          refine e6.trans ?_
          rw [if_pos rfl, show (65536 : Int64) = lN 65536 from rfl, lN_mul, lN_add]
      · obtain ⟨a2, q2, g1, g2, e5, e6⟩ := add_L (N := N) (m := 255) (x1 := 1) (k5 := fun x5_13 x6_14 => ((fX5_halves N 1 x5_13.toInt64 x6_14.toInt64).bind (fun r_15 => (some r_15)))) (k6 := fun x6_11 x8_12 => (if (1 : Int32) = 0 then (some ((x8_12 * (65536 : Int64)) + x6_11)) else (some ((x8_12 * (256 : Int64)) + x6_11)))) hn hT (by decide) (by decide) hj (j - i) N i 0 0 (by omega) (by omega) (by decide) (by decide)
        refine ⟨lN (q2 * 256 + a2), e5.trans ?_, ?_⟩
        · unfold fX5_halves
          rw [if_neg hob, Option.bind_some, nI_l (by omega), nI_l (by omega), show kAH (1 : Int32).toNatClampNeg = nI 8 from rfl, lSh _ (by decide), lN_add]
        · rw [if_neg (by decide)]
          refine e6.trans ?_
          rw [if_neg (by decide), show (256 : Int64) = lN 256 from rfl, lN_mul, lN_add]
/-- halves of an adding sum -/
theorem half_c {N : Nat} {x1 : Int32} {H M s : Nat} {hS : s ≤ 16} (hob : ¬ OOB x1 2) (hs : kAH x1.toNatClampNeg = nI s) (hM : kAM x1.toNatClampNeg = nI M) (hH : H = 2 ^ s) (hM1 : 0 < M) (hMH : M ≤ 65521) (v : Int64) (d : Int64 → Int64 → Option Int32) (hd : fX6_isAdded N x1 v = fX6_isAdded_J27 N v (lN H) (lN M)) : (fX5_isAddingSum N x1 v = some 0 ∧ fX6_isAdded N x1 v = some 0) ∨ ∃ a, a < 2 ^ 63 ∧ v = lN a ∧ a % H < M ∧ a / H < M ∧ fX5_isAddingSum N x1 v = some 1 ∧ fX6_isAdded N x1 v = some 1 ∧ fX5_lowHalf N x1 v = some (lN (a % H)) ∧ fX5_highHalf N x1 v = some (lN (a / H)) := by
  rw [hd]
  unfold fX5_isAddingSum fX6_isAdded_J27
  simp only [if_neg hob, hM]
  by_cases h0 : v < 0
  · left; simp only [if_pos h0]; exact ⟨trivial, trivial⟩
  · obtain ⟨a, ha, rfl⟩ := pk_lOf h0
    have hHp : 0 < H := by rw [hH]; exact Nat.two_pow_pos s
    have hH16 : H ≤ 2 ^ 16 := by rw [hH]; exact pow_le_of_le hS
    have hmod : a % H < H := Nat.mod_lt _ hHp
    have hdiv : a / H ≤ a := Nat.div_le_self _ _
    have e1 : fX5_lowHalf N x1 (lN a) = some (lN (a % H)) := by
      unfold fX5_lowHalf
      rw [if_neg hob, hs, show (1 : Int64) = lN 1 from rfl, lSh 1 (by omega), Nat.one_mul, lN_sub (Nat.two_pow_pos s), lA, Nat.and_two_pow_sub_one_eq_mod, hH]
    have e2 : fX5_highHalf N x1 (lN a) = some (lN (a / H)) := by
      unfold fX5_highHalf
      rw [if_neg hob, hs, lUs (by omega) (by omega), hH]
    have hH0 : ¬ lN H = 0 := fun e => by have := (lE0 (by omega)).mp e; omega
    have e3 : lRem (lN a) (lN H) = lN (a % H) := pk_lRem ha hHp (by omega)
    have e4 : lN a / lN H = lN (a / H) := pk_lDiv ha hHp (by omega)
    simp only [if_neg h0, e1, e2, Option.bind_some, if_neg hH0, e3, e4, nI_l (show M < 2 ^ 31 by omega)]
    by_cases c1 : lN M ≤ lN (a % H)
    · left; simp only [if_pos c1]; exact ⟨trivial, trivial⟩
    · simp only [if_neg c1]
      by_cases c2 : lN M ≤ lN (a / H)
      · left; simp only [if_pos c2]; exact ⟨trivial, trivial⟩
      · right
        simp only [if_neg c2]
        exact ⟨a, ha, rfl, Nat.not_le.mp (fun q => c1 ((pk_lLE (by omega) (by omega)).mpr q)), Nat.not_le.mp (fun q => c2 ((pk_lLE (by omega) (by omega)).mpr q)), by first | rfl | trivial, by first | rfl | trivial, by first | rfl | trivial, by first | rfl | trivial⟩
theorem lsac (a b c : Int64) : a - b + c = a + c - b := by rw [Int64.sub_eq_add_neg, Int64.sub_eq_add_neg, Int64.add_assoc, Int64.add_comm (-b), ← Int64.add_assoc]
theorem adj {N : Nat} {x1 : Int32} {H M s fi : Nat} {hS : s ≤ 16} (hob : ¬ OOB x1 2) (hs : kAH x1.toNatClampNeg = nI s) (hM : kAM x1.toNatClampNeg = nI M) (hFi : kAF x1.toNatClampNeg = nI fi) (h1 : (1 : Int64) - x1.toInt64 = lN fi) (hfi : fi ≤ 1) (hH : H = 2 ^ s) (hM1 : 1 < M) (hMH : M ≤ 65521) {a b n : Nat} (ha : a < 2 ^ 63) (hb : b < 2 ^ 63) (hn : n ≤ 2 ^ 60) (a1 : a % H < M) (a2 : a / H < M) (b1 : b % H < M) (b2 : b / H < M) :
    fX5_halves N x1 (lRem (lN (b % H) + (lRem ((lN (a % H) + lN M) - lN fi) (lN M))) (lN M)) (lRem ((lN (a / H) + lN (b / H)) + ((lRem (lN n) (lN M)) * (lRem ((lN (a % H) + lN M) - lN fi) (lN M)))) (lN M)) = fX6_addedJoined_J66 N x1 (lN a) (lN b) (lN n) (lN H) (lN M) := by
  have hHp : 0 < H := by rw [hH]; exact Nat.two_pow_pos s
  have hH16 : H ≤ 2 ^ 16 := by rw [hH]; exact pow_le_of_le hS
  have hM0 : 0 < M := by omega
  have hH0 : ¬ lN H = 0 := fun e => by have := (lE0 (by omega)).mp e; omega
  have hM00 : ¬ lN M = 0 := fun e => by have := (lE0 (by omega)).mp e; omega
  unfold fX5_halves fX6_addedJoined_J66
  simp only [if_neg hob, if_neg hH0, if_neg hM00, hs, h1]
  have e3 : ∀ z, z < 2 ^ 63 → lRem (lN z) (lN H) = lN (z % H) := fun z hz => pk_lRem hz hHp (by omega)
  have e4 : ∀ z, z < 2 ^ 63 → lN z / lN H = lN (z / H) := fun z hz => pk_lDiv hz hHp (by omega)
  have e5 : ∀ z, z < 2 ^ 63 → lRem (lN z) (lN M) = lN (z % M) := fun z hz => pk_lRem hz hM0 (by omega)
  rw [e3 a ha, e3 b hb, e4 a ha, e4 b hb, e5 n (by omega)]
  have hc : (a % H + M - fi) % M < M := Nat.mod_lt _ hM0
  have hnm : n % M < M := Nat.mod_lt _ hM0
  have hmul : n % M * ((a % H + M - fi) % M) ≤ 65521 * 65521 := Nat.mul_le_mul (by omega) (by omega)
  have h9 : n % M * ((a % H + M - fi) % M) % M < M := Nat.mod_lt _ hM0
  have s1 : (lN (a % H) + lN M) - lN fi = lN (a % H + M - fi) := by rw [lN_add, lN_sub (by omega)]
  have s2 : (lN (a % H) - lN fi) + lN M = lN (a % H + M - fi) := by
    rw [← s1, lsac]
  have s3 : ((lN (a % H) + lN (b % H)) - lN fi) + lN M = lN (a % H + b % H + M - fi) := by
    rw [lsac, lN_add, lN_add, lN_sub (by omega)]
  rw [s1, s2, s3, e5 _ (by omega), e5 _ (by omega), lN_mul, lN_add, lN_add, e5 _ (by omega), lN_add, e5 _ (by omega), e5 _ (by omega), lN_add, e5 _ (by omega), lN_mul, lN_add, lSh _ (by omega), lN_add, ← hH]
  have f1 : (b % H + (a % H + M - fi) % M) % M = (a % H + b % H + M - fi) % M := by
    rw [Nat.add_mod_mod]; congr 1; omega
  have f2 : (a / H + b / H + n % M * ((a % H + M - fi) % M)) % M = (a / H + b / H + n % M * ((a % H + M - fi) % M) % M) % M := by
    rw [Nat.add_mod_mod]
  rw [f1, f2]
theorem ad0_a (N : Nat) (v : Int64) : fX6_isAdded N 0 v = fX6_isAdded_J27 N v (lN 65536) (lN 65521) := by
  unfold fX6_isAdded fX6_isAdded_J13
  rw [if_pos rfl, if_pos rfl]; rfl
theorem ad1_a (N : Nat) (v : Int64) : fX6_isAdded N 1 v = fX6_isAdded_J27 N v (lN 256) (lN 255) := by
  unfold fX6_isAdded fX6_isAdded_J13
  rw [if_neg (by decide), if_neg (by decide)]; rfl
theorem ad0_b (N : Nat) (a b c : Int64) : (if (0 : Int32) = 0 then (fX6_addedJoined_J51 N 0 a b c (65536 : Int64)) else (fX6_addedJoined_J51 N 0 a b c (256 : Int64))) = fX6_addedJoined_J66 N 0 a b c (lN 65536) (lN 65521) := by
  unfold fX6_addedJoined_J51
  rw [if_pos rfl, if_pos rfl]; rfl
theorem ad1_b (N : Nat) (a b c : Int64) : (if (1 : Int32) = 0 then (fX6_addedJoined_J51 N 1 a b c (65536 : Int64)) else (fX6_addedJoined_J51 N 1 a b c (256 : Int64))) = fX6_addedJoined_J66 N 1 a b c (lN 256) (lN 255) := by
  unfold fX6_addedJoined_J51
  rw [if_neg (by decide), if_neg (by decide)]; rfl
theorem ad0_c : kAH (0 : Int32).toNatClampNeg = nI 16 ∧ kAM (0 : Int32).toNatClampNeg = nI 65521 ∧ kAF (0 : Int32).toNatClampNeg = nI 1 ∧ (1 : Int64) - (0 : Int32).toInt64 = lN 1 := ⟨by decide +kernel, by decide +kernel, by decide +kernel, by decide +kernel⟩
theorem ad1_c : kAH (1 : Int32).toNatClampNeg = nI 8 ∧ kAM (1 : Int32).toNatClampNeg = nI 255 ∧ kAF (1 : Int32).toNatClampNeg = nI 0 ∧ (1 : Int64) - (1 : Int32).toInt64 = lN 0 := ⟨by decide +kernel, by decide +kernel, by decide +kernel, by decide +kernel⟩
theorem ag_addedJoined {N : Nat} (x1 : Int32) (x2 x4 x6 : Int64) : ∃ r, fX5_addedJoined N x1 x2 x4 x6 = some r ∧ fX6_addedJoined N x1 x2 x4 x6 = some r := by
  unfold fX5_addedJoined fX6_addedJoined
  rcases what_c N x1 with ⟨a, h | h⟩ | ⟨h, a⟩
  · exact ⟨-1, by rw [a]; rfl, by rw [if_pos h]⟩
  · refine ⟨-1, by rw [a]; rfl, ?_⟩
    by_cases h0 : x1 < 0
    · rw [if_pos h0]
    · rw [if_neg h0, if_pos h]
  · have h0 : ¬ x1 < 0 := by rcases h with rfl | rfl <;> decide
    have h1 : ¬ (1 : Int32) < x1 := by rcases h with rfl | rfl <;> decide
    have hob : ¬ OOB x1 2 := by rcases h with rfl | rfl <;> decide
    obtain ⟨H, M, s, fi, hS, hs, hM, hFi, hv, hfi, hH, hM1, hMH, hd, hj⟩ : ∃ H M s fi : Nat, s ≤ 16 ∧ kAH x1.toNatClampNeg = nI s ∧ kAM x1.toNatClampNeg = nI M ∧ kAF x1.toNatClampNeg = nI fi ∧ (1 : Int64) - x1.toInt64 = lN fi ∧ fi ≤ 1 ∧ H = 2 ^ s ∧ 1 < M ∧ M ≤ 65521 ∧ (∀ v, fX6_isAdded N x1 v = fX6_isAdded_J27 N v (lN H) (lN M)) ∧ ∀ a b c : Int64, (if x1 = 0 then (fX6_addedJoined_J51 N x1 a b c (65536 : Int64)) else (fX6_addedJoined_J51 N x1 a b c (256 : Int64))) = fX6_addedJoined_J66 N x1 a b c (lN H) (lN M) := by
      rcases h with rfl | rfl
      · exact ⟨65536, 65521, 16, 1, by decide, ad0_c.1, ad0_c.2.1, ad0_c.2.2.1, ad0_c.2.2.2, by decide, by decide +kernel, by decide +kernel, by decide +kernel, ad0_a N, ad0_b N⟩
      · exact ⟨256, 255, 8, 0, by decide, ad1_c.1, ad1_c.2.1, ad1_c.2.2.1, ad1_c.2.2.2, by decide, by decide +kernel, by decide +kernel, by decide +kernel, ad1_a N, ad1_b N⟩
    simp only [a, if_neg h0, if_neg h1, Option.bind_some, if_neg hob, show ¬ (1 : Int32) = 0 by decide, if_false, hj, hM, hFi]
    rcases half_c (hS := hS) hob hs hM hH (by omega) hMH x2 (fun _ _ => none) (hd x2) with ⟨q1, q2⟩ | ⟨av, ha, rfl, ha1, ha2, q1, q2, q3, q4⟩
    · exact ⟨-1, by rw [q1]; rfl, by rw [q2]; rfl⟩
    · rcases half_c (hS := hS) hob hs hM hH (by omega) hMH x4 (fun _ _ => none) (hd x4) with ⟨t1, t2⟩ | ⟨bv, hb, rfl, hb1, hb2, t1, t2, t3, t4⟩
      · exact ⟨-1, by rw [q1, t1]; rfl, by rw [q2, t2]; rfl⟩
      · rcases len_c N x6 with ⟨u1, u2⟩ | ⟨n, hn, rfl, u1, u2⟩
        · exact ⟨-1, by rw [q1, t1, u1]; rfl, by rw [q2, t2, u2]; rfl⟩
        · have hM00 : ¬ lN M = 0 := fun e => by have := (lE0 (by omega)).mp e; omega
          simp only [q1, q2, q3, q4, t1, t2, t3, t4, u1, u2, Option.bind_some, show ¬ (1 : Int32) = 0 by decide, if_false, nI_l (show M < 2 ^ 31 by omega), nI_l (show fi < 2 ^ 31 by omega), if_neg hM00]
          have := adj (N := N) (hS := hS) hob hs hM hFi hv hfi hH hM1 hMH ha hb hn ha1 ha2 hb1 hb2
          rw [this]
          cases hz : fX6_addedJoined_J66 N x1 (lN av) (lN bv) (lN n) (lN H) (lN M) with
          | none =>
            rw [hz] at this
            unfold fX5_halves at this
            rw [if_neg hob] at this
            cases this
          | some r => exact ⟨r, rfl, rfl⟩

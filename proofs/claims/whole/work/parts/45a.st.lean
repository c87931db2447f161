/-! ===== the law: its invariant, its steps ===== -/
def w21 (cy : Nat → ClassId) (hsf hst hsq hre hrr hrs hmo hmW hmP hmS hmE hmI hmO hmT hmK hmF hmH hmM hmD hmR hmB : Nat) (sN : Int32) (sC : Int32) (sT : Nat → Int32) (sQ : Nat → Option Nat) (eN : Int32) (eR : Nat → Int64) (eS : Nat → Int64) (mC : Int32) (mN : Int32) (mW : Nat → Int32) (mP : Nat → Int64) (mS : Nat → Int64) (mE : Nat → Int64) (mI : Nat → Int32) (mO : Nat → Int32) (mT : Nat → Int32) (mK : Nat → Int32) (mF : Nat → Int64) (mH : Nat → Int32) (mM : Nat → Int32) (mD : Nat → Int64) (mR : Nat → Int64) (mB : Nat → Int64) : va_W := [(hsf, .inr (4, [.ref hst, .int sN, .ref hsq, .int sC, .ref hre])), (hst, .inl (cy 0, 600, .inl sT)), (hsq, .inl (cy 3, 8, .inr (.inr (.inr (.inr sQ))))), (hre, .inr (2, [.ref hrr, .ref hrs, .int eN])), (hrr, .inl (cy 1, 200, .inr (.inl eR))), (hrs, .inl (cy 1, 512, .inr (.inl eS))), (hmo, .inr (5, [.int mC, .ref hmW, .ref hmP, .ref hmS, .ref hmE, .ref hmI, .ref hmO, .ref hmT, .int mN, .ref hmK, .ref hmF, .ref hmH, .ref hmM, .ref hmD, .ref hmR, .ref hmB])), (hmW, .inl (cy 0, 8, .inl mW)), (hmP, .inl (cy 1, 8, .inr (.inl mP))), (hmS, .inl (cy 1, 8, .inr (.inl mS))), (hmE, .inl (cy 1, 8, .inr (.inl mE))), (hmI, .inl (cy 2, 8, .inl mI)), (hmO, .inl (cy 2, 8, .inl mO)), (hmT, .inl (cy 0, 600, .inl mT)), (hmK, .inl (cy 2, 8, .inl mK)), (hmF, .inl (cy 1, 264, .inr (.inl mF))), (hmH, .inl (cy 0, 264, .inl mH)), (hmM, .inl (cy 0, 8, .inl mM)), (hmD, .inl (cy 1, 8, .inr (.inl mD))), (hmR, .inl (cy 1, 200, .inr (.inl mR))), (hmB, .inl (cy 1, 65536, .inr (.inl mB)))]
def w26 (cy : Nat → ClassId) (hsf hst hsq hre hrr hrs hmo hmW hmP hmS hmE hmI hmO hmT hmK hmF hmH hmM hmD hmR hmB : Nat) (sN : Int32) (sC : Int32) (sT : Nat → Int32) (sQ : Nat → Option Nat) (eN : Int32) (eR : Nat → Int64) (eS : Nat → Int64) (mC : Int32) (mN : Int32) (mW : Nat → Int32) (mP : Nat → Int64) (mS : Nat → Int64) (mE : Nat → Int64) (mI : Nat → Int32) (mO : Nat → Int32) (mT : Nat → Int32) (mK : Nat → Int32) (mF : Nat → Int64) (mH : Nat → Int32) (mM : Nat → Int32) (mD : Nat → Int64) (mR : Nat → Int64) (mB : Nat → Int64) (a : FAd) (d : FCo) : va_W := [(hsf, .inr (4, [.ref hst, .int sN, .ref hsq, .int sC, .ref hre])), (hst, .inl (cy 0, 600, .inl sT)), (hsq, .inl (cy 3, 8, .inr (.inr (.inr (.inr sQ))))), (a.1, .inr (1, [.int d.1.1, .long d.1.2.1, .long d.1.2.2.1, .long d.1.2.2.2.1, .int d.1.2.2.2.2.1, .int d.1.2.2.2.2.2, .ref a.2.1, .ref a.2.2.2.2])), (a.2.1, .inr (0, [.ref a.2.2.1, .ref a.2.2.2.1, .int d.2.1.1, .long d.2.1.2.1, .long d.2.1.2.2.1])), (a.2.2.1, .inl (cy 1, 9, .inr (.inl d.2.1.2.2.2.1))), (a.2.2.2.1, .inl (cy 0, 9, .inl d.2.1.2.2.2.2)), (a.2.2.2.2, .inr (3, [.int d.2.2.1, .int d.2.2.2.1, .int d.2.2.2.2.1, .long d.2.2.2.2.2])), (hre, .inr (2, [.ref hrr, .ref hrs, .int eN])), (hrr, .inl (cy 1, 200, .inr (.inl eR))), (hrs, .inl (cy 1, 512, .inr (.inl eS))), (hmo, .inr (5, [.int mC, .ref hmW, .ref hmP, .ref hmS, .ref hmE, .ref hmI, .ref hmO, .ref hmT, .int mN, .ref hmK, .ref hmF, .ref hmH, .ref hmM, .ref hmD, .ref hmR, .ref hmB])), (hmW, .inl (cy 0, 8, .inl mW)), (hmP, .inl (cy 1, 8, .inr (.inl mP))), (hmS, .inl (cy 1, 8, .inr (.inl mS))), (hmE, .inl (cy 1, 8, .inr (.inl mE))), (hmI, .inl (cy 2, 8, .inl mI)), (hmO, .inl (cy 2, 8, .inl mO)), (hmT, .inl (cy 0, 600, .inl mT)), (hmK, .inl (cy 2, 8, .inl mK)), (hmF, .inl (cy 1, 264, .inr (.inl mF))), (hmH, .inl (cy 0, 264, .inl mH)), (hmM, .inl (cy 0, 8, .inl mM)), (hmD, .inl (cy 1, 8, .inr (.inl mD))), (hmR, .inl (cy 1, 200, .inr (.inl mR))), (hmB, .inl (cy 1, 65536, .inr (.inl mB)))]
def upF (fd : Nat → FCo) (f : Nat) (d : FCo) : Nat → FCo := fun j => if j = f then d else fd j
theorem upF_s (fd : Nat → FCo) (f : Nat) (d : FCo) : upF fd f d f = d := if_pos rfl
theorem upF_n {fd : Nat → FCo} {f j : Nat} {d : FCo} (h : j ≠ f) : upF fd f d j = fd j := if_neg h
theorem w26_pm (cy : Nat → ClassId) (hsf hst hsq hre hrr hrs hmo hmW hmP hmS hmE hmI hmO hmT hmK hmF hmH hmM hmD hmR hmB : Nat) (sN : Int32) (sC : Int32) (sT : Nat → Int32) (sQ : Nat → Option Nat) (eN : Int32) (eR : Nat → Int64) (eS : Nat → Int64) (mC : Int32) (mN : Int32) (mW : Nat → Int32) (mP : Nat → Int64) (mS : Nat → Int64) (mE : Nat → Int64) (mI : Nat → Int32) (mO : Nat → Int32) (mT : Nat → Int32) (mK : Nat → Int32) (mF : Nat → Int64) (mH : Nat → Int32) (mM : Nat → Int32) (mD : Nat → Int64) (mR : Nat → Int64) (mB : Nat → Int64) (a : FAd) (d : FCo) : (w21 cy hsf hst hsq hre hrr hrs hmo hmW hmP hmS hmE hmI hmO hmT hmK hmF hmH hmM hmD hmR hmB sN sC sT sQ eN eR eS mC mN mW mP mS mE mI mO mT mK mF mH mM mD mR mB ++ fcs cy a d).Perm (w26 cy hsf hst hsq hre hrr hrs hmo hmW hmP hmS hmE hmI hmO hmT hmK hmF hmH hmM hmD hmR hmB sN sC sT sQ eN eR eS mC mN mW mP mS mE mI mO mT mK mF mH mM mD mR mB a d) := pm 26 (0, .inr (0, [])) [0, 1, 2, 21, 22, 23, 24, 25, 3, 4, 5, 6, 7, 8, 9, 10, 11, 12, 13, 14, 15, 16, 17, 18, 19, 20] (by decide +kernel) rfl rfl
theorem wPerm (cy : Nat → ClassId) (hsf hst hsq hre hrr hrs hmo hmW hmP hmS hmE hmI hmO hmT hmK hmF hmH hmM hmD hmR hmB : Nat) (sN : Int32) (sC : Int32) (sT : Nat → Int32) (sQ : Nat → Option Nat) (eN : Int32) (eR : Nat → Int64) (eS : Nat → Int64) (mC : Int32) (mN : Int32) (mW : Nat → Int32) (mP : Nat → Int64) (mS : Nat → Int64) (mE : Nat → Int64) (mI : Nat → Int32) (mO : Nat → Int32) (mT : Nat → Int32) (mK : Nat → Int32) (mF : Nat → Int64) (mH : Nat → Int32) (mM : Nat → Int32) (mD : Nat → Int64) (mR : Nat → Int64) (mB : Nat → Int64) (ad : Nat → FAd) (fd : Nat → FCo) (f : Nat) (hf : f < 8) : (w21 cy hsf hst hsq hre hrr hrs hmo hmW hmP hmS hmE hmI hmO hmT hmK hmF hmH hmM hmD hmR hmB sN sC sT sQ eN eR eS mC mN mW mP mS mE mI mO mT mK mF mH mM mD mR mB ++ fl cy ad fd 8).Perm (w26 cy hsf hst hsq hre hrr hrs hmo hmW hmP hmS hmE hmI hmO hmT hmK hmF hmH hmM hmD hmR hmB sN sC sT sQ eN eR eS mC mN mW mP mS mE mI mO mT mK mF mH mM mD mR mB (ad f) (fd f) ++ fr cy ad fd f 8) := by
  refine ((fl_pick 8 hf).append_left _).trans ?_
  rw [← List.append_assoc]
  exact (w26_pm cy hsf hst hsq hre hrr hrs hmo hmW hmP hmS hmE hmI hmO hmT hmK hmF hmH hmM hmD hmR hmB sN sC sT sQ eN eR eS mC mN mW mP mS mE mI mO mT mK mF mH mM mD mR mB (ad f) (fd f)).append_right _
theorem wPermU (cy : Nat → ClassId) (hsf hst hsq hre hrr hrs hmo hmW hmP hmS hmE hmI hmO hmT hmK hmF hmH hmM hmD hmR hmB : Nat) (sN : Int32) (sC : Int32) (sT : Nat → Int32) (sQ : Nat → Option Nat) (eN : Int32) (eR : Nat → Int64) (eS : Nat → Int64) (mC : Int32) (mN : Int32) (mW : Nat → Int32) (mP : Nat → Int64) (mS : Nat → Int64) (mE : Nat → Int64) (mI : Nat → Int32) (mO : Nat → Int32) (mT : Nat → Int32) (mK : Nat → Int32) (mF : Nat → Int64) (mH : Nat → Int32) (mM : Nat → Int32) (mD : Nat → Int64) (mR : Nat → Int64) (mB : Nat → Int64) (ad : Nat → FAd) (fd : Nat → FCo) (f : Nat) (hf : f < 8) (d : FCo) : (w26 cy hsf hst hsq hre hrr hrs hmo hmW hmP hmS hmE hmI hmO hmT hmK hmF hmH hmM hmD hmR hmB sN sC sT sQ eN eR eS mC mN mW mP mS mE mI mO mT mK mF mH mM mD mR mB (ad f) d ++ fr cy ad fd f 8).Perm (w21 cy hsf hst hsq hre hrr hrs hmo hmW hmP hmS hmE hmI hmO hmT hmK hmF hmH hmM hmD hmR hmB sN sC sT sQ eN eR eS mC mN mW mP mS mE mI mO mT mK mF mH mM mD mR mB ++ fl cy ad (upF fd f d) 8) := by
  have := wPerm cy hsf hst hsq hre hrr hrs hmo hmW hmP hmS hmE hmI hmO hmT hmK hmF hmH hmM hmD hmR hmB sN sC sT sQ eN eR eS mC mN mW mP mS mE mI mO mT mK mF mH mM mD mR mB ad (upF fd f d) f hf
  rw [upF_s, fr_congr (fd := fd) (fun j hj => upF_n hj) 8] at this
  exact this.symm
def LI (k n : Nat) (sT : Nat → Int32) (fd : Nat → FCo) (mW : Nat → Int32) (mP : Nat → Int64) (mS : Nat → Int64) (mE : Nat → Int64) (mI : Nat → Int32) (mO : Nat → Int32) (mT : Nat → Int32) (mK : Nat → Int32) (mF : Nat → Int64) (mH : Nat → Int32) (mM : Nat → Int32) (mD : Nat → Int64) : Prop := k ≤ 8 ∧ n ≤ 600 ∧ TX n sT mT ∧ (∀ f, f < k → FR (fd f).1.1 (fd f).1.2.1 (fd f).1.2.2.1 (fd f).1.2.2.2.1 (fd f).1.2.2.2.2.1 (fd f).1.2.2.2.2.2 (mW f) (mP f) (mS f) (mE f) (mI f) (mO f)) ∧ (∀ f, f < 8 → CF (fd f).2.1.1 (fd f).2.1.2.1 (fd f).2.1.2.2.1 (fd f).2.1.2.2.2.1 (fd f).2.1.2.2.2.2) ∧ (∀ f, f < 8 → UInv (fd f).2.2.1 (fd f).2.2.2.1 (fd f).2.2.2.2.1 (fd f).2.2.2.2.2) ∧ RK k mW mP mK mF mH mM mD
def LAt (p : Program) (l : Launch) (e : Env) (s : State) (m : MethodId) (b : Nat) (below : List Frame) (meth : Method) (c : Code) (D : va_G) (cy : Nat → ClassId) (A : Nat → Prop) (hsf hst hsq hre hrr hrs hmo hmW hmP hmS hmE hmI hmO hmT hmK hmF hmH hmM hmD hmR hmB : Nat) (sQ : Nat → Option Nat) (ad : Nat → FAd) (i pc : Nat) : Prop := ∀ (k n : Nat) (fd : Nat → FCo) (sT : Nat → Int32) (eN : Int32) (eR : Nat → Int64) (eS : Nat → Int64) (mW : Nat → Int32) (mP : Nat → Int64) (mS : Nat → Int64) (mE : Nat → Int64) (mI : Nat → Int32) (mO : Nat → Int32) (mT : Nat → Int32) (mK : Nat → Int32) (mF : Nat → Int64) (mH : Nat → Int32) (mM : Nat → Int32) (mD : Nat → Int64) (mR : Nat → Int64) (mB : Nat → Int64), LI k n sT fd mW mP mS mE mI mO mT mK mF mH mM mD → ∀ (H : Heap) (locs : List Loc) (ls : Array Slot), va_P D vwCl (w21 cy hsf hst hsq hre hrr hrs hmo hmW hmP hmS hmE hmI hmO hmT hmK hmF hmH hmM hmD hmR hmB (nI n) (nI k) sT sQ eN eR eS (nI k) (nI n) mW mP mS mE mI mO mT mK mF mH mM mD mR mB ++ fl cy ad fd 8) H → va_D A (w21 cy hsf hst hsq hre hrr hrs hmo hmW hmP hmS hmE hmI hmO hmT hmK hmF hmH hmM hmD hmR hmB (nI n) (nI k) sT sQ eN eR eS (nI k) (nI n) mW mP mS mE mI mO mT mK mF mH mM mD mR mB ++ fl cy ad fd 8) → va_S A s.heap H locs → lv_has ls 4 [(0, .ref b), (1, .ref hsf), (2, .ref hmo), (3, .int (nI i))] → GL p l e s m b below meth c H locs (F0 m pc ls [])
theorem sel_ex (x : Int32) : ∃ f, f < 8 ∧ (vp_in x 8 → x.toNatClampNeg = f) := by
  by_cases h : vp_in x 8
  · exact ⟨x.toNatClampNeg, Nat.not_le.mp (fun q => h (Or.inr q)), fun _ => rfl⟩
  · exact ⟨0, by decide, fun q => absurd q h⟩
theorem sel_eq {x : Int32} {f f' k : Nat} (hfx : vp_in x 8 → x.toNatClampNeg = f) (hk : k ≤ 8) (hf' : f' < k) (e : x = nI f') : f' = f := by
  have h := hfx (by rw [e]; exact vp_in_nI (by omega) (by decide))
  rw [e, nI_clamp (by omega)] at h
  exact h
theorem li_fac {k n f : Nat} {sT : Nat → Int32} {fd : Nat → FCo} {mW : Nat → Int32} {mP mS mE : Nat → Int64} {mI mO mT mK : Nat → Int32} {mF : Nat → Int64} {mH mM : Nat → Int32} {mD : Nat → Int64} {mK' : Nat → Int32} {mF' : Nat → Int64} {mH' mM' : Nat → Int32} {mD' : Nat → Int64} {x : Int32 × Int64 × Int64 × (Nat → Int64) × (Nat → Int32)} (h : LI k n sT fd mW mP mS mE mI mO mT mK mF mH mM mD) (hC : CF x.1 x.2.1 x.2.2.1 x.2.2.2.1 x.2.2.2.2) (hR : RK k mW mP mK' mF' mH' mM' mD') : LI k n sT (upF fd f ((fd f).1, x, (fd f).2.2)) mW mP mS mE mI mO mT mK' mF' mH' mM' mD' := by
  obtain ⟨h1, h2, h3, h4, h5, h6, h7⟩ := h
  refine ⟨h1, h2, h3, fun g hg => ?_, fun g hg => ?_, fun g hg => ?_, hR⟩
  · by_cases q : g = f
    · rw [q, upF_s]; rw [q] at hg; exact h4 f hg
    · rw [upF_n q]; exact h4 g hg
  · by_cases q : g = f
    · rw [q, upF_s]; exact hC
    · rw [upF_n q]; exact h5 g hg
  · by_cases q : g = f
    · rw [q, upF_s]; rw [q] at hg; exact h6 f hg
    · rw [upF_n q]; exact h6 g hg
theorem li_uns {k n f : Nat} {sT : Nat → Int32} {fd : Nat → FCo} {mW : Nat → Int32} {mP mS mE : Nat → Int64} {mI mO mT mK : Nat → Int32} {mF : Nat → Int64} {mH mM : Nat → Int32} {mD : Nat → Int64} {x : Int32 × Int32 × Int32 × Int64} (h : LI k n sT fd mW mP mS mE mI mO mT mK mF mH mM mD) (hU : UInv x.1 x.2.1 x.2.2.1 x.2.2.2) : LI k n sT (upF fd f ((fd f).1, (fd f).2.1, x)) mW mP mS mE mI mO mT mK mF mH mM mD := by
  obtain ⟨h1, h2, h3, h4, h5, h6, h7⟩ := h
  refine ⟨h1, h2, h3, fun g hg => ?_, fun g hg => ?_, fun g hg => ?_, h7⟩
  · by_cases q : g = f
    · rw [q, upF_s]; rw [q] at hg; exact h4 f hg
    · rw [upF_n q]; exact h4 g hg
  · by_cases q : g = f
    · rw [q, upF_s]; rw [q] at hg; exact h5 f hg
    · rw [upF_n q]; exact h5 g hg
  · by_cases q : g = f
    · rw [q, upF_s]; exact hU
    · rw [upF_n q]; exact h6 g hg
theorem li_form {k n w P st en : Nat} {sT : Nat → Int32} {fd : Nat → FCo} {mW : Nat → Int32} {mP mS mE : Nat → Int64} {mI mO mT mK : Nat → Int32} {mF : Nat → Int64} {mH mM : Nat → Int32} {mD : Nat → Int64} {x8 x9 : Int32} (h : LI k n sT fd mW mP mS mE mI mO mT mK mF mH mM mD) (hk : k < 8) (hw : 3 ≤ w ∧ w ≤ 32) (hp : P < 2 ^ w ∧ P % 2 = 1 ∧ st < 2 ^ w ∧ en < 2 ^ w) : LI (k + 1) n sT (upF fd k ((nI w, lN (2 ^ w ^^^ P), lN st, lN en, x8, x9), (fd k).2)) (upd mW k (nI w)) (vp_updL mP k (lN P)) (vp_updL mS k (lN st)) (vp_updL mE k (lN en)) (upd mI k x8) (upd mO k x9) mT (upd mK k 0) mF mH mM mD := by
  obtain ⟨h1, h2, h3, h4, h5, h6, h7⟩ := h
  refine ⟨hk, h2, h3, fun g hg => ?_, fun g hg => ?_, fun g hg => ?_, fun g w' P' hg e1 e2 e3 e4 e5 => ?_⟩
  · by_cases q : g = k
    · rw [q, upF_s, pk_us, pk_us, pk_us, pk_uLs, pk_uLs, pk_uLs]
      exact ⟨w, P, st, en, hw, hp, ⟨rfl, rfl, rfl, rfl⟩, ⟨rfl, rfl, rfl, rfl⟩, rfl, rfl⟩
    · rw [upF_n q, pk_un q, pk_un q, pk_un q, pk_uLn q, pk_uLn q, pk_uLn q]; exact h4 g (by omega)
  · by_cases q : g = k
    · rw [q, upF_s]; rw [q] at hg; exact h5 k hg
    · rw [upF_n q]; exact h5 g hg
  · by_cases q : g = k
    · rw [q, upF_s]; rw [q] at hg; exact h6 k hg
    · rw [upF_n q]; exact h6 g hg
  · by_cases q : g = k
    · rw [q, pk_us] at e5; exact absurd rfl e5
    · rw [pk_un q] at e1 e5
      rw [pk_uLn q] at e3
      exact h7 g w' P' (by omega) e1 e2 e3 e4 e5

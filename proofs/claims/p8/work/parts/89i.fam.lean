/-! ===== the class's families by bits ===== -/
theorem zJ_s {σ : zS} {k : Nat} {r : Nat → Int64} : (zJ σ k r).2.1 k = r := va_up_self _ _ _
theorem zJ_n {σ : zS} {k a : Nat} {r : Nat → Int64} (h : a ≠ k) : (zJ σ k r).2.1 a = σ.2.1 a := va_up_ne _ _ h
theorem updL_i {g : Nat → Int64} {j i : Nat} {v : Int64} : vp_updL g j v i = if i = j then v else g i := rfl
/-- bit s of a row of longs -/
def bt (w : Nat → Int64) (s : Nat) : Bool := (w (s / 64)).toBitVec.getLsbD (s % 64)
/-- longs of row k alone may be other -/
def LF (k : Nat) (σ τ : zS) : Prop := τ.1 = σ.1 ∧ τ.2.2 = σ.2.2 ∧ ∀ a, a ≠ k → τ.2.1 a = σ.2.1 a
theorem LF.rf {k : Nat} {σ : zS} : LF k σ σ := ⟨rfl, rfl, fun _ _ => rfl⟩
theorem LF.tr {k : Nat} {σ τ υ : zS} (h : LF k σ τ) (h2 : LF k τ υ) : LF k σ υ := ⟨h2.1.trans h.1, h2.2.1.trans h.2.1, fun a ha => (h2.2.2 a ha).trans (h.2.2 a ha)⟩
theorem LF.sJ {k : Nat} {σ τ : zS} {r : Nat → Int64} (h : LF k σ τ) : LF k σ (zJ τ k r) := ⟨h.1, h.2.1, fun a ha => (zJ_n ha).trans (h.2.2 a ha)⟩
theorem LF.R {k : Nat} {σ τ : zS} (h : LF k σ τ) (hR : RF σ.2.2) : RF τ.2.2 := by rw [h.2.1]; exact hR
theorem sx6 : ∀ s, s < 1024 → ((nI s) >>> ((6 : Int32) &&& 31)).toInt = ((s / 64 : Nat) : Int) ∧ (nI s &&& 63) = nI (s % 64) := by decide +kernel
theorem s64 : ∀ n, n < 64 → (((nI n).toInt64 &&& 63).toBitVec.smod 64).toNat = n ∧ (((nI n).toInt64.toUInt64 &&& Int64.toUInt64 63).toBitVec % 64).toNat = n := by decide +kernel
theorem zsl_bv (x : Int64) {n : Nat} (hn : n < 64) : (zsl x (nI n)).toBitVec = x.toBitVec <<< n := by
  show (x <<< ((nI n).toInt64 &&& 63)).toBitVec = _
  rw [Int64.toBitVec_shiftLeft]
  show x.toBitVec <<< (((nI n).toInt64 &&& 63).toBitVec.smod 64).toNat = _
  rw [(s64 n hn).1]
theorem zul_bv (x : Int64) {n : Nat} (hn : n < 64) : (zul x (nI n)).toBitVec = x.toBitVec >>> n := by
  show (x.toUInt64 >>> ((nI n).toInt64.toUInt64 &&& Int64.toUInt64 63)).toBitVec = _
  rw [UInt64.toBitVec_shiftRight]
  show x.toUInt64.toBitVec >>> (((nI n).toInt64.toUInt64 &&& Int64.toUInt64 63).toBitVec % 64).toNat = _
  rw [(s64 n hn).2]
  rfl
theorem cmp0 {x y : Int64} : lg_cmp x y = 0 ↔ x = y := by
  unfold lg_cmp
  by_cases h : x > y
  · rw [if_pos h]
    exact ⟨fun q => absurd q (by decide), fun q => by rw [q] at h; exact absurd h (Int64.lt_irrefl)⟩
  · rw [if_neg h]
    by_cases e : x = y
    · rw [if_pos e]; exact ⟨fun _ => e, fun _ => rfl⟩
    · rw [if_neg e]; exact ⟨fun q => absurd q (by decide), fun q => absurd q e⟩
/-- the lowest bit -/
theorem and1L (x : Int64) : (x &&& 1) = 0 ↔ x.toBitVec.getLsbD 0 = false := by
  rw [← Int64.toBitVec_inj, Int64.toBitVec_and]
  constructor
  · intro h
    have := congrArg (fun b => BitVec.getLsbD b 0) h
    simpa using this
  · intro h
    apply BitVec.eq_of_getLsbD_eq
    intro i hi
    rw [BitVec.getLsbD_and]
    by_cases e : i = 0
    · subst e; rw [h]; simp
    · have : (1 : Int64).toBitVec.getLsbD i = false := by
        have : (1 : Int64).toBitVec = 1#64 := rfl
        rw [this, BitVec.getLsbD_one]
        simp [e]
      rw [this]; simp
theorem x1_bv {x : Int64} {j : Nat} (hj : j < 64) : (x ^^^ (-1)).toBitVec.getLsbD j = !x.toBitVec.getLsbD j := by
  rw [Int64.toBitVec_xor, BitVec.getLsbD_xor]
  have : (-1 : Int64).toBitVec = BitVec.allOnes 64 := rfl
  rw [this, BitVec.getLsbD_allOnes, decide_eq_true hj, Bool.xor_true]
section FAM
variable {N x0 x1 : Nat} {σ : zS} {s : Nat}
theorem v_holds (hR : RF σ.2.2) (h0 : (zKd x0).1 = 2) (hs : s < 1024) : Px (f_X2_holds N x0 (nI s) σ) σ (fun v => (v = 0 ∨ v = 1) ∧ (v = 1 ↔ bt (σ.2.1 (x0 + 1)) s = true)) := by
  have es : (nI s).toInt = (s : Int) := nI_toInt (by omega)
  rw [f_X2_holds.eq_1]
  refine pt_if (fun q => absurd q (by rw [Int32.lt_iff_toInt_lt, es]; simp only [Int32.reduceToInt]; omega)) (fun _ => pt_if (fun q => absurd q (by rw [Int32.le_iff_toInt_le, es]; simp only [Int32.reduceToInt]; omega)) (fun _ => ?_))
  refine pt_gR (v := x0 + 1) (fam_R hR h0).1 (pt_aJ ?_)
  rw [(sx6 s hs).1, (sx6 s hs).2, Int.toNat_natCast]
  have e : bt (σ.2.1 (x0 + 1)) s = (zul (σ.2.1 (x0 + 1) (s / 64)) (nI (s % 64))).toBitVec.getLsbD 0 := by
    unfold bt
    rw [zul_bv _ (by omega), BitVec.getLsbD_ushiftRight]
    rfl
  rw [e]
  refine pt_if (fun q => pt_rZ ⟨rfl, Or.inl rfl, ?_⟩) (fun q => pt_rZ ⟨rfl, Or.inr rfl, ?_⟩)
  · rw [cmp0, and1L] at q
    rw [q]; exact ⟨fun z => absurd (show (0 : Int32) = 1 from z) (by decide), fun z => by cases z⟩
  · rw [cmp0, and1L] at q
    exact ⟨fun _ => by simpa using q, fun _ => rfl⟩
theorem one_bv {m : Nat} (hm : m < 64) {j : Nat} (hj : j < 64) : (zsl 1 (nI m)).toBitVec.getLsbD j = decide (j = m) := by
  rw [zsl_bv _ hm, BitVec.getLsbD_shiftLeft]
  have : (1 : Int64).toBitVec = 1#64 := rfl
  rw [this, BitVec.getLsbD_one]
  by_cases a : j < m
  · simp [a, hj]; omega
  · by_cases b : j = m
    · simp [b]; omega
    · simp [a, hj, b]; omega
/-- a set comes -/
theorem v_include (hR : RF σ.2.2) (h0 : (zKd x0).1 = 2) (hs : s < 1024) : Pt (f_X2_include N x0 (nI s) σ) (fun r => LF (x0 + 1) σ r.2 ∧ ∀ u, u < 1024 → bt (r.2.2.1 (x0 + 1)) u = (bt (σ.2.1 (x0 + 1)) u || decide (u = s))) := by
  have es : (nI s).toInt = (s : Int) := nI_toInt (by omega)
  rw [f_X2_include.eq_1]
  refine pt_if (fun q => absurd q (by rw [Int32.lt_iff_toInt_lt, es]; simp only [Int32.reduceToInt]; omega)) (fun _ => pt_if (fun q => absurd q (by rw [Int32.le_iff_toInt_le, es]; simp only [Int32.reduceToInt]; omega)) (fun _ => ?_))
  refine pt_gR (v := x0 + 1) (fam_R hR h0).1 (pt_aJ (pt_sJ (pt_some ⟨LF.rf.sJ, fun u hu => ?_⟩)))
  rw [(sx6 s hs).1, (sx6 s hs).2, Int.toNat_natCast]
  show bt ((zJ σ (x0 + 1) _).2.1 (x0 + 1)) u = _
  rw [zJ_s]
  unfold bt
  rw [updL_i]
  by_cases e : u / 64 = s / 64
  · rw [if_pos e, Int64.toBitVec_or, BitVec.getLsbD_or, one_bv (by omega) (by omega), e]
    congr 1
    by_cases f : u = s
    · rw [decide_eq_true f, decide_eq_true (by omega)]
    · rw [decide_eq_false f, decide_eq_false (by omega)]
  · rw [if_neg e, decide_eq_false (show ¬ u = s from fun q => e (by rw [q])), Bool.or_false]
/-- a set goes -/
theorem v_exclude (hR : RF σ.2.2) (h0 : (zKd x0).1 = 2) (hs : s < 1024) : Pt (f_X2_exclude N x0 (nI s) σ) (fun r => LF (x0 + 1) σ r.2 ∧ ∀ u, u < 1024 → bt (r.2.2.1 (x0 + 1)) u = (bt (σ.2.1 (x0 + 1)) u && !decide (u = s))) := by
  have es : (nI s).toInt = (s : Int) := nI_toInt (by omega)
  rw [f_X2_exclude.eq_1]
  refine pt_if (fun q => absurd q (by rw [Int32.lt_iff_toInt_lt, es]; simp only [Int32.reduceToInt]; omega)) (fun _ => pt_if (fun q => absurd q (by rw [Int32.le_iff_toInt_le, es]; simp only [Int32.reduceToInt]; omega)) (fun _ => ?_))
  refine pt_gR (v := x0 + 1) (fam_R hR h0).1 (pt_aJ (pt_sJ (pt_some ⟨LF.rf.sJ, fun u hu => ?_⟩)))
  rw [(sx6 s hs).1, (sx6 s hs).2, Int.toNat_natCast]
  show bt ((zJ σ (x0 + 1) _).2.1 (x0 + 1)) u = _
  rw [zJ_s]
  unfold bt
  rw [updL_i]
  by_cases e : u / 64 = s / 64
  · rw [if_pos e, Int64.toBitVec_and, BitVec.getLsbD_and, x1_bv (by omega), one_bv (by omega) (by omega), e]
    congr 2
    by_cases f : u = s
    · rw [decide_eq_true f, decide_eq_true (by omega)]
    · rw [decide_eq_false f, decide_eq_false (by omega)]
  · rw [if_neg e, decide_eq_false (show ¬ u = s from fun q => e (by rw [q]))]
    simp
theorem v_fill {k : Nat} {v : Int64} {P : Unit × zS → Prop} (hk : zKd k = (15, 16)) (hP : ∀ τ : zS, LF k σ τ → (∀ j, j < 16 → τ.2.1 k j = v) → P ((), τ)) : Pt (f_J7_fill_d0a16 N k v σ) P := by
  rw [f_J7_fill_d0a16.eq_1]
  refine pt_aL ?_
  rw [hk]
  have e16 : (Int32.ofNat ((15, 16) : Nat × Nat).2).toInt = 16 := rfl
  refine pt_lp (fun s : Int32 × zS => (0 ≤ s.1.toInt ∧ s.1.toInt ≤ 16) ∧ LF k σ s.2 ∧ ∀ j : Nat, (j : Int) < s.1.toInt → s.2.2.1 k j = v) (fun again s hI ih => ?_) N _ ⟨(by decide : 0 ≤ (0 : Int32).toInt ∧ (0 : Int32).toInt ≤ 16), LF.rf, fun j hj => absurd hj (by show ¬ (j : Int) < (0 : Int32).toInt; simp only [Int32.reduceToInt]; omega)⟩
  obtain ⟨x3, τ⟩ := s
  obtain ⟨hb, hl, hj⟩ := hI
  have hb : 0 ≤ x3.toInt ∧ x3.toInt ≤ 16 := hb
  have hl : LF k σ τ := hl
  have hj : ∀ j : Nat, (j : Int) < x3.toInt → τ.2.1 k j = v := hj
  rw [F_J7_fill_d0a16_6.eq_1]
  refine pt_if (fun q => pt_some (hP τ hl (fun j h => hj j ?_))) (fun q => ?_)
  · rw [Int32.le_iff_toInt_le, e16] at q; omega
  · rw [Int32.le_iff_toInt_le, e16] at q
    have hw : 0 ≤ x3.toInt ∧ x3.toInt ≤ 100000 := by omega
    have hb1 : 0 ≤ (x3 + 1).toInt ∧ (x3 + 1).toInt ≤ 16 := by rw [a1_ hw]; omega
    refine pt_sJ (ih (x3 + 1, _) ⟨hb1, hl.sJ, fun j h => ?_⟩)
    have h : (j : Int) < (x3 + 1).toInt := h
    rw [a1_ hw] at h
    show (zJ τ k _).2.1 k j = v
    rw [zJ_s, updL_i]
    by_cases e : j = x3.toInt.toNat
    · rw [if_pos e]
    · rw [if_neg e]; exact hj j (by omega)
theorem bt_0 {w : Nat → Int64} (h : ∀ j, j < 16 → w j = 0) {u : Nat} (hu : u < 1024) : bt w u = false := by
  unfold bt
  rw [h _ (by omega)]
  exact BitVec.getLsbD_zero
theorem v_clear (hR : RF σ.2.2) (h0 : (zKd x0).1 = 2) : Pt (f_X2_clear N x0 σ) (fun r => LF (x0 + 1) σ r.2 ∧ ∀ u, u < 1024 → bt (r.2.2.1 (x0 + 1)) u = false) := by
  rw [f_X2_clear.eq_1]
  have f := fam_R hR h0
  refine pt_gR (v := x0 + 1) f.1 (pt_zb (Q := fun r => LF (x0 + 1) σ r.2 ∧ ∀ u, u < 1024 → bt (r.2.2.1 (x0 + 1)) u = false) (v_fill f.2 (fun τ a b => ⟨a, fun u hu => bt_0 b hu⟩)) (fun _ σ1 h => pt_some h))
theorem v_copyFrom (hR : RF σ.2.2) (h0 : (zKd x0).1 = 2) (h1 : (zKd x1).1 = 2) : Pt (f_X2_copyFrom N x0 x1 σ) (fun r => LF (x0 + 1) σ r.2 ∧ ∀ u, u < 1024 → bt (r.2.2.1 (x0 + 1)) u = bt (σ.2.1 (x1 + 1)) u) := by
  rw [f_X2_copyFrom.eq_1]
  refine pt_gR (v := x1 + 1) (fam_R hR h1).1 (pt_gR (v := x0 + 1) (fam_R hR h0).1 ?_)
  intro r hr
  obtain ⟨τ, h3, hr⟩ := zl_some hr
  obtain ⟨_, e⟩ := zguard h3
  rw [← Option.some.inj hr, ← e]
  refine ⟨LF.rf.sJ, fun u hu => ?_⟩
  show bt ((zJ σ (x0 + 1) _).2.1 (x0 + 1)) u = _
  rw [zJ_s]
  unfold bt
  show (if 0 ≤ u / 64 ∧ u / 64 < 0 + 16 then σ.2.1 (x1 + 1) (0 + (u / 64 - 0)) else σ.2.1 (x0 + 1) (u / 64)).toBitVec.getLsbD (u % 64) = _
  rw [if_pos ⟨Nat.zero_le _, by omega⟩, show 0 + (u / 64 - 0) = u / 64 by omega]

theorem v_join (hR : RF σ.2.2) (h0 : (zKd x0).1 = 2) (h1 : (zKd x1).1 = 2) : Pt (f_X2_join N x0 x1 σ) (fun r => LF (x0 + 1) σ r.2 ∧ ∀ u, u < 1024 → bt (r.2.2.1 (x0 + 1)) u = (bt (σ.2.1 (x0 + 1)) u || bt (σ.2.1 (x1 + 1)) u)) := by
  rw [f_X2_join.eq_1]
  refine pt_w (Q := fun r => LF (x0 + 1) σ r.2 ∧ ∀ j, j < 16 → r.2.2.1 (x0 + 1) j = (σ.2.1 (x0 + 1) j ||| σ.2.1 (x1 + 1) j)) ?_ (fun r h => ⟨h.1, fun u hu => ?_⟩)
  · refine pt_lp (fun s : Int32 × zS => (0 ≤ s.1.toInt ∧ s.1.toInt ≤ 16) ∧ LF (x0 + 1) σ s.2 ∧ ∀ j, s.2.2.1 (x0 + 1) j = if (j : Int) < s.1.toInt then (σ.2.1 (x0 + 1) j ||| σ.2.1 (x1 + 1) j) else σ.2.1 (x0 + 1) j) (fun again s hI ih => ?_) N _ ⟨(by decide : 0 ≤ (0 : Int32).toInt ∧ (0 : Int32).toInt ≤ 16), LF.rf, fun j => by rw [if_neg (by simp only [Int32.reduceToInt]; omega)]⟩
    obtain ⟨x2, τ⟩ := s
    obtain ⟨hb, hl, hj⟩ := hI
    have hb : 0 ≤ x2.toInt ∧ x2.toInt ≤ 16 := hb
    have hl : LF (x0 + 1) σ τ := hl
    have hj : ∀ j, τ.2.1 (x0 + 1) j = if (j : Int) < x2.toInt then (σ.2.1 (x0 + 1) j ||| σ.2.1 (x1 + 1) j) else σ.2.1 (x0 + 1) j := hj
    have R9 := hl.R hR
    have r0 := (fam_R R9 h0).1
    rw [F_X2_join_2.eq_1]
    refine pt_if (fun q => pt_some ⟨hl, fun j h => ?_⟩) (fun q => ?_)
    · rw [Int32.le_iff_toInt_le] at q
      simp only [Int32.reduceToInt] at q
      show τ.2.1 (x0 + 1) j = _
      rw [hj, if_pos (by omega)]
    · rw [Int32.le_iff_toInt_le] at q
      simp only [Int32.reduceToInt] at q
      have hw : 0 ≤ x2.toInt ∧ x2.toInt ≤ 100000 := by omega
      have hb1 : 0 ≤ (x2 + 1).toInt ∧ (x2 + 1).toInt ≤ 16 := by rw [a1_ hw]; omega
      have e0 : τ.2.1 (x0 + 1) x2.toInt.toNat = σ.2.1 (x0 + 1) x2.toInt.toNat := by rw [hj, if_neg (by omega)]
      have e1 : τ.2.1 (x1 + 1) x2.toInt.toNat = σ.2.1 (x1 + 1) x2.toInt.toNat := by
        by_cases e : x1 = x0
        · rw [e]; exact e0
        · rw [hl.2.2 _ (by omega)]
      have r1 := (fam_R R9 h1).1
      refine pt_gR (v := x0 + 1) r0 (pt_aJ (pt_gR (v := x1 + 1) r1 (pt_aJ (pt_sJ ?_))))
      rw [e0, e1]
      refine ih (x2 + 1, _) ⟨hb1, hl.sJ, fun j => ?_⟩
      show (zJ τ (x0 + 1) _).2.1 (x0 + 1) j = if (j : Int) < (x2 + 1).toInt then (σ.2.1 (x0 + 1) j ||| σ.2.1 (x1 + 1) j) else σ.2.1 (x0 + 1) j
      rw [zJ_s, updL_i, a1_ hw, hj j]
      clear hb1
      by_cases e : j = x2.toInt.toNat
      · rw [if_pos e, if_pos (by omega), e]
      · rw [if_neg e]
        by_cases f : (j : Int) < x2.toInt
        · rw [if_pos f, if_pos (by omega)]
        · rw [if_neg f, if_neg (by omega)]

  · unfold bt
    rw [h.2 _ (by omega)]
    rw [Int64.toBitVec_or, BitVec.getLsbD_or]
theorem v_cutBy (hR : RF σ.2.2) (h0 : (zKd x0).1 = 2) (h1 : (zKd x1).1 = 2) : Pt (f_X2_cutBy N x0 x1 σ) (fun r => LF (x0 + 1) σ r.2 ∧ ∀ u, u < 1024 → bt (r.2.2.1 (x0 + 1)) u = (bt (σ.2.1 (x0 + 1)) u && bt (σ.2.1 (x1 + 1)) u)) := by
  rw [f_X2_cutBy.eq_1]
  refine pt_w (Q := fun r => LF (x0 + 1) σ r.2 ∧ ∀ j, j < 16 → r.2.2.1 (x0 + 1) j = (σ.2.1 (x0 + 1) j &&& σ.2.1 (x1 + 1) j)) ?_ (fun r h => ⟨h.1, fun u hu => ?_⟩)
  · refine pt_lp (fun s : Int32 × zS => (0 ≤ s.1.toInt ∧ s.1.toInt ≤ 16) ∧ LF (x0 + 1) σ s.2 ∧ ∀ j, s.2.2.1 (x0 + 1) j = if (j : Int) < s.1.toInt then (σ.2.1 (x0 + 1) j &&& σ.2.1 (x1 + 1) j) else σ.2.1 (x0 + 1) j) (fun again s hI ih => ?_) N _ ⟨(by decide : 0 ≤ (0 : Int32).toInt ∧ (0 : Int32).toInt ≤ 16), LF.rf, fun j => by rw [if_neg (by simp only [Int32.reduceToInt]; omega)]⟩
    obtain ⟨x2, τ⟩ := s
    obtain ⟨hb, hl, hj⟩ := hI
    have hb : 0 ≤ x2.toInt ∧ x2.toInt ≤ 16 := hb
    have hl : LF (x0 + 1) σ τ := hl
    have hj : ∀ j, τ.2.1 (x0 + 1) j = if (j : Int) < x2.toInt then (σ.2.1 (x0 + 1) j &&& σ.2.1 (x1 + 1) j) else σ.2.1 (x0 + 1) j := hj
    have R9 := hl.R hR
    have r0 := (fam_R R9 h0).1
    rw [F_X2_cutBy_2.eq_1]
    refine pt_if (fun q => pt_some ⟨hl, fun j h => ?_⟩) (fun q => ?_)
    · rw [Int32.le_iff_toInt_le] at q
      simp only [Int32.reduceToInt] at q
      show τ.2.1 (x0 + 1) j = _
      rw [hj, if_pos (by omega)]
    · rw [Int32.le_iff_toInt_le] at q
      simp only [Int32.reduceToInt] at q
      have hw : 0 ≤ x2.toInt ∧ x2.toInt ≤ 100000 := by omega
      have hb1 : 0 ≤ (x2 + 1).toInt ∧ (x2 + 1).toInt ≤ 16 := by rw [a1_ hw]; omega
      have e0 : τ.2.1 (x0 + 1) x2.toInt.toNat = σ.2.1 (x0 + 1) x2.toInt.toNat := by rw [hj, if_neg (by omega)]
      have e1 : τ.2.1 (x1 + 1) x2.toInt.toNat = σ.2.1 (x1 + 1) x2.toInt.toNat := by
        by_cases e : x1 = x0
        · rw [e]; exact e0
        · rw [hl.2.2 _ (by omega)]
      have r1 := (fam_R R9 h1).1
      refine pt_gR (v := x0 + 1) r0 (pt_aJ (pt_gR (v := x1 + 1) r1 (pt_aJ (pt_sJ ?_))))
      rw [e0, e1]
      refine ih (x2 + 1, _) ⟨hb1, hl.sJ, fun j => ?_⟩
      show (zJ τ (x0 + 1) _).2.1 (x0 + 1) j = if (j : Int) < (x2 + 1).toInt then (σ.2.1 (x0 + 1) j &&& σ.2.1 (x1 + 1) j) else σ.2.1 (x0 + 1) j
      rw [zJ_s, updL_i, a1_ hw, hj j]
      clear hb1
      by_cases e : j = x2.toInt.toNat
      · rw [if_pos e, if_pos (by omega), e]
      · rw [if_neg e]
        by_cases f : (j : Int) < x2.toInt
        · rw [if_pos f, if_pos (by omega)]
        · rw [if_neg f, if_neg (by omega)]

  · unfold bt
    rw [h.2 _ (by omega)]
    rw [Int64.toBitVec_and, BitVec.getLsbD_and]
theorem v_takeAway (hR : RF σ.2.2) (h0 : (zKd x0).1 = 2) (h1 : (zKd x1).1 = 2) : Pt (f_X2_takeAway N x0 x1 σ) (fun r => LF (x0 + 1) σ r.2 ∧ ∀ u, u < 1024 → bt (r.2.2.1 (x0 + 1)) u = (bt (σ.2.1 (x0 + 1)) u && !bt (σ.2.1 (x1 + 1)) u)) := by
  rw [f_X2_takeAway.eq_1]
  refine pt_w (Q := fun r => LF (x0 + 1) σ r.2 ∧ ∀ j, j < 16 → r.2.2.1 (x0 + 1) j = (σ.2.1 (x0 + 1) j &&& (σ.2.1 (x1 + 1) j ^^^ (-1)))) ?_ (fun r h => ⟨h.1, fun u hu => ?_⟩)
  · refine pt_lp (fun s : Int32 × zS => (0 ≤ s.1.toInt ∧ s.1.toInt ≤ 16) ∧ LF (x0 + 1) σ s.2 ∧ ∀ j, s.2.2.1 (x0 + 1) j = if (j : Int) < s.1.toInt then (σ.2.1 (x0 + 1) j &&& (σ.2.1 (x1 + 1) j ^^^ (-1))) else σ.2.1 (x0 + 1) j) (fun again s hI ih => ?_) N _ ⟨(by decide : 0 ≤ (0 : Int32).toInt ∧ (0 : Int32).toInt ≤ 16), LF.rf, fun j => by rw [if_neg (by simp only [Int32.reduceToInt]; omega)]⟩
    obtain ⟨x2, τ⟩ := s
    obtain ⟨hb, hl, hj⟩ := hI
    have hb : 0 ≤ x2.toInt ∧ x2.toInt ≤ 16 := hb
    have hl : LF (x0 + 1) σ τ := hl
    have hj : ∀ j, τ.2.1 (x0 + 1) j = if (j : Int) < x2.toInt then (σ.2.1 (x0 + 1) j &&& (σ.2.1 (x1 + 1) j ^^^ (-1))) else σ.2.1 (x0 + 1) j := hj
    have R9 := hl.R hR
    have r0 := (fam_R R9 h0).1
    rw [F_X2_takeAway_2.eq_1]
    refine pt_if (fun q => pt_some ⟨hl, fun j h => ?_⟩) (fun q => ?_)
    · rw [Int32.le_iff_toInt_le] at q
      simp only [Int32.reduceToInt] at q
      show τ.2.1 (x0 + 1) j = _
      rw [hj, if_pos (by omega)]
    · rw [Int32.le_iff_toInt_le] at q
      simp only [Int32.reduceToInt] at q
      have hw : 0 ≤ x2.toInt ∧ x2.toInt ≤ 100000 := by omega
      have hb1 : 0 ≤ (x2 + 1).toInt ∧ (x2 + 1).toInt ≤ 16 := by rw [a1_ hw]; omega
      have e0 : τ.2.1 (x0 + 1) x2.toInt.toNat = σ.2.1 (x0 + 1) x2.toInt.toNat := by rw [hj, if_neg (by omega)]
      have e1 : τ.2.1 (x1 + 1) x2.toInt.toNat = σ.2.1 (x1 + 1) x2.toInt.toNat := by
        by_cases e : x1 = x0
        · rw [e]; exact e0
        · rw [hl.2.2 _ (by omega)]
      have r1 := (fam_R R9 h1).1
      refine pt_gR (v := x0 + 1) r0 (pt_aJ (pt_gR (v := x1 + 1) r1 (pt_aJ (pt_sJ ?_))))
      rw [e0, e1]
      refine ih (x2 + 1, _) ⟨hb1, hl.sJ, fun j => ?_⟩
      show (zJ τ (x0 + 1) _).2.1 (x0 + 1) j = if (j : Int) < (x2 + 1).toInt then (σ.2.1 (x0 + 1) j &&& (σ.2.1 (x1 + 1) j ^^^ (-1))) else σ.2.1 (x0 + 1) j
      rw [zJ_s, updL_i, a1_ hw, hj j]
      clear hb1
      by_cases e : j = x2.toInt.toNat
      · rw [if_pos e, if_pos (by omega), e]
      · rw [if_neg e]
        by_cases f : (j : Int) < x2.toInt
        · rw [if_pos f, if_pos (by omega)]
        · rw [if_neg f, if_neg (by omega)]

  · unfold bt
    rw [h.2 _ (by omega)]
    rw [Int64.toBitVec_and, BitVec.getLsbD_and, x1_bv (by omega)]
theorem pt_aW {β : Type} {P : β → Prop} {i : Int32} {f : Int64 → Option β} (h : Pt (f (zWo i.toInt.toNat)) P) : Pt (zl (aW i) f) P := fun a e => by
  obtain ⟨w, h1, h2⟩ := zl_some e
  obtain ⟨_, rfl⟩ := zguard h1
  exact h a h2
theorem zWo_b : ∀ k, k < 6 → ∀ i, i < 64 → (zWo k).toBitVec.getLsbD i = !(i.testBit k) := by decide +kernel
theorem sh1 : ∀ k, k < 10 → ((1 : Int32) <<< (nI k &&& 31)) = nI (2 ^ k) ∧ (nI k).toInt = (k : Int) := by decide +kernel
theorem sh6 : ∀ k, k < 4 → ((1 : Int32) <<< ((nI (k + 6) - 6) &&& 31)) = nI (2 ^ k) := by decide +kernel
theorem fx64a : ∀ k, k < 6 → ∀ r, r < 64 → r.testBit k = true → r ^^^ 2 ^ k = r - 2 ^ k ∧ 2 ^ k ≤ r ∧ (r - 2 ^ k).testBit k = false := by decide +kernel
theorem fx64b : ∀ k, k < 6 → ∀ r, r < 64 → r.testBit k = false → r ^^^ 2 ^ k = r + 2 ^ k ∧ (r < 2 ^ k ∨ (r - 2 ^ k).testBit k = true) ∧ r + 2 ^ k < 64 := by decide +kernel
theorem fx64c : ∀ k, k < 6 → 2 ^ k < 2 ^ 6 ∧ 2 ^ k < 2 ^ 10 := by decide
theorem fx6m {k : Nat} (hk : k < 6) (u : Nat) : (u ^^^ 2 ^ k) % 64 = (u % 64) ^^^ 2 ^ k ∧ (u % 64).testBit k = u.testBit k := by
  constructor
  · show (u ^^^ 2 ^ k) % 2 ^ 6 = (u % 2 ^ 6) ^^^ 2 ^ k
    rw [Nat.xor_mod_two_pow, Nat.mod_eq_of_lt (fx64c k hk).1]
  · show (u % 2 ^ 6).testBit k = _
    rw [Nat.testBit_mod_two_pow, decide_eq_true hk, Bool.true_and]
theorem fx6a : ∀ k, k < 6 → ∀ u, u < 1024 → ((u ^^^ 2 ^ k) / 64 = u / 64 ∧ (u ^^^ 2 ^ k) < 1024 ∧ (u % 64).testBit k = u.testBit k) := fun k hk u hu => by
  refine ⟨?_, Nat.xor_lt_two_pow (n := 10) hu (fx64c k hk).2, (fx6m hk u).2⟩
  show (u ^^^ 2 ^ k) / 2 ^ 6 = u / 2 ^ 6
  rw [Nat.xor_div_two_pow, Nat.div_eq_of_lt (fx64c k hk).1, Nat.xor_zero]
theorem fx6b : ∀ k, k < 6 → ∀ u, u < 1024 → (u.testBit k = true → (u ^^^ 2 ^ k) % 64 = u % 64 - 2 ^ k ∧ 2 ^ k ≤ u % 64 ∧ (u % 64 - 2 ^ k).testBit k = false) := fun k hk u _ h => by
  rw [(fx6m hk u).1]
  exact fx64a k hk (u % 64) (Nat.mod_lt _ (by decide)) ((fx6m hk u).2.trans h)
theorem fx6c : ∀ k, k < 6 → ∀ u, u < 1024 → (u.testBit k = false → (u ^^^ 2 ^ k) % 64 = u % 64 + 2 ^ k ∧ (u % 64 < 2 ^ k ∨ (u % 64 - 2 ^ k).testBit k = true) ∧ u % 64 + 2 ^ k < 64) := fun k hk u _ h => by
  rw [(fx6m hk u).1]
  exact fx64b k hk (u % 64) (Nat.mod_lt _ (by decide)) ((fx6m hk u).2.trans h)
theorem fx6 : ∀ k, k < 6 → ∀ u, u < 1024 → ((u ^^^ 2 ^ k) / 64 = u / 64 ∧ (u ^^^ 2 ^ k) < 1024 ∧ (u % 64).testBit k = u.testBit k) ∧ (u.testBit k = true → (u ^^^ 2 ^ k) % 64 = u % 64 - 2 ^ k ∧ 2 ^ k ≤ u % 64 ∧ (u % 64 - 2 ^ k).testBit k = false) ∧ (u.testBit k = false → (u ^^^ 2 ^ k) % 64 = u % 64 + 2 ^ k ∧ (u % 64 < 2 ^ k ∨ (u % 64 - 2 ^ k).testBit k = true) ∧ u % 64 + 2 ^ k < 64) := fun k hk u hu => ⟨fx6a k hk u hu, fx6b k hk u hu, fx6c k hk u hu⟩
theorem fx10 : ∀ k, k < 4 → ∀ u, u < 1024 → (u ^^^ 2 ^ (k + 6)) / 64 = (u / 64) ^^^ 2 ^ k ∧ (u ^^^ 2 ^ (k + 6)) % 64 = u % 64 ∧ (u / 64).testBit k = u.testBit (k + 6) ∧ (u ^^^ 2 ^ (k + 6)) < 1024 := by decide +kernel
theorem gx : ∀ k, k < 4 → ∀ m, m < 16 → ((m.testBit k = false → m + 2 ^ k = m ^^^ 2 ^ k ∧ (m ^^^ 2 ^ k).testBit k = true) ∧ (m.testBit k = true → (m ^^^ 2 ^ k).testBit k = false ∧ (m ^^^ 2 ^ k) + 2 ^ k = m)) ∧ (m ^^^ 2 ^ k) ^^^ 2 ^ k = m ∧ (m ^^^ 2 ^ k) < 16 ∧ ((nI m &&& nI (2 ^ k)) = 0 ↔ m.testBit k = false) := by decide +kernel
theorem p2k : ∀ k, k < 6 → 2 ^ k < 64 ∧ (nI (2 ^ k)).toInt = ((2 ^ k : Nat) : Int) := by decide +kernel
theorem zslQ {x : Int64} {k : Nat} (hk : k < 6) {u : Nat} (hu : u < 1024) : (zsl (x &&& zWo k) (nI (2 ^ k))).toBitVec.getLsbD (u % 64) = (u.testBit k && x.toBitVec.getLsbD ((u ^^^ 2 ^ k) % 64)) := by
  have f := fx6 k hk u hu
  rw [zsl_bv _ (p2k k hk).1, BitVec.getLsbD_shiftLeft, Int64.toBitVec_and, BitVec.getLsbD_and]
  cases h : u.testBit k with
  | true =>
    have a := f.2.1 h
    rw [zWo_b k hk _ (by omega), a.2.2, a.1, decide_eq_true (show u % 64 < 64 by omega), decide_eq_false (show ¬ u % 64 < 2 ^ k by omega)]
    simp
  | false =>
    have a := (f.2.2 h).2.1
    by_cases q : u % 64 < 2 ^ k
    · rw [decide_eq_true q]; simp
    · rw [zWo_b k hk _ (by have := Nat.sub_le (u % 64) (2 ^ k); omega), a.resolve_left q]; simp
theorem zulm {x : Int64} {k : Nat} (hk : k < 6) {u : Nat} (hu : u < 1024) : ((zul x (nI (2 ^ k))) &&& zWo k).toBitVec.getLsbD (u % 64) = (!u.testBit k && x.toBitVec.getLsbD ((u ^^^ 2 ^ k) % 64)) := by
  have f := fx6 k hk u hu
  rw [Int64.toBitVec_and, BitVec.getLsbD_and, zul_bv _ (p2k k hk).1, BitVec.getLsbD_ushiftRight, zWo_b k hk _ (by omega), f.1.2.2]
  cases h : u.testBit k with
  | true => simp
  | false =>
    have a := (f.2.2 h).1
    rw [a, Nat.add_comm]; simp

theorem v_raise19 {k : Nat} (hR : RF σ.2.2) (h0 : (zKd x0).1 = 2) (hk : k < 6) : Pt (zlp (F_X2_raise_19 N x0 (nI k)) N (0, σ)) (fun r => LF (x0 + 1) σ r.2 ∧ ∀ u, u < 1024 → bt (r.2.2.1 (x0 + 1)) u = (bt (σ.2.1 (x0 + 1)) u || (u.testBit k && bt (σ.2.1 (x0 + 1)) (u ^^^ 2 ^ k)))) := by
  refine pt_w (Q := fun r => LF (x0 + 1) σ r.2 ∧ ∀ j, j < 16 → r.2.2.1 (x0 + 1) j = (σ.2.1 (x0 + 1) j ||| zsl (σ.2.1 (x0 + 1) j &&& zWo k) (nI (2 ^ k)))) ?_ (fun r h => ⟨h.1, fun u hu => ?_⟩)
  · refine pt_lp (fun s : Int32 × zS => (0 ≤ s.1.toInt ∧ s.1.toInt ≤ 16) ∧ LF (x0 + 1) σ s.2 ∧ ∀ j, s.2.2.1 (x0 + 1) j = if (j : Int) < s.1.toInt then (σ.2.1 (x0 + 1) j ||| zsl (σ.2.1 (x0 + 1) j &&& zWo k) (nI (2 ^ k))) else σ.2.1 (x0 + 1) j) (fun again s hI ih => ?_) N _ ⟨(by decide : 0 ≤ (0 : Int32).toInt ∧ (0 : Int32).toInt ≤ 16), LF.rf, fun j => by rw [if_neg (by simp only [Int32.reduceToInt]; omega)]⟩
    obtain ⟨x2, τ⟩ := s
    obtain ⟨hb, hl, hj⟩ := hI
    have hb : 0 ≤ x2.toInt ∧ x2.toInt ≤ 16 := hb
    have hl : LF (x0 + 1) σ τ := hl
    have hj : ∀ j, τ.2.1 (x0 + 1) j = if (j : Int) < x2.toInt then (σ.2.1 (x0 + 1) j ||| zsl (σ.2.1 (x0 + 1) j &&& zWo k) (nI (2 ^ k))) else σ.2.1 (x0 + 1) j := hj
    have R9 := hl.R hR
    have r0 := (fam_R R9 h0).1
    rw [F_X2_raise_19.eq_1]
    refine pt_if (fun q => pt_some ⟨hl, fun j h => ?_⟩) (fun q => ?_)
    · rw [Int32.le_iff_toInt_le] at q
      simp only [Int32.reduceToInt] at q
      show τ.2.1 (x0 + 1) j = _
      rw [hj, if_pos (by omega)]
    · rw [Int32.le_iff_toInt_le] at q
      simp only [Int32.reduceToInt] at q
      have hw : 0 ≤ x2.toInt ∧ x2.toInt ≤ 100000 := by omega
      have hb1 : 0 ≤ (x2 + 1).toInt ∧ (x2 + 1).toInt ≤ 16 := by rw [a1_ hw]; omega
      have e0 : τ.2.1 (x0 + 1) x2.toInt.toNat = σ.2.1 (x0 + 1) x2.toInt.toNat := by rw [hj, if_neg (by omega)]
      have ek : (nI k).toInt.toNat = k := by rw [(sh1 k (by omega)).2]; omega
      refine pt_gR (v := x0 + 1) r0 (pt_aJ (pt_gR (v := x0 + 1) r0 (pt_aJ (pt_aW (pt_sJ ?_)))))
      rw [e0, ek, (sh1 k (by omega)).1]
      refine ih (x2 + 1, _) ⟨hb1, hl.sJ, fun j => ?_⟩
      show (zJ τ (x0 + 1) _).2.1 (x0 + 1) j = if (j : Int) < (x2 + 1).toInt then (σ.2.1 (x0 + 1) j ||| zsl (σ.2.1 (x0 + 1) j &&& zWo k) (nI (2 ^ k))) else σ.2.1 (x0 + 1) j
      rw [zJ_s, updL_i, a1_ hw, hj j]
      clear hb1
      by_cases e : j = x2.toInt.toNat
      · rw [if_pos e, if_pos (by omega), e]
      · rw [if_neg e]
        by_cases f : (j : Int) < x2.toInt
        · rw [if_pos f, if_pos (by omega)]
        · rw [if_neg f, if_neg (by omega)]

  · unfold bt
    rw [h.2 _ (by omega)]
    rw [Int64.toBitVec_or, BitVec.getLsbD_or, zslQ hk hu, (fx6 k hk u hu).1.1]
theorem v_lower19 {k : Nat} (hR : RF σ.2.2) (h0 : (zKd x0).1 = 2) (hk : k < 6) : Pt (zlp (F_X2_lower_19 N x0 (nI k)) N (0, σ)) (fun r => LF (x0 + 1) σ r.2 ∧ ∀ u, u < 1024 → bt (r.2.2.1 (x0 + 1)) u = (bt (σ.2.1 (x0 + 1)) u || (!u.testBit k && bt (σ.2.1 (x0 + 1)) (u ^^^ 2 ^ k)))) := by
  refine pt_w (Q := fun r => LF (x0 + 1) σ r.2 ∧ ∀ j, j < 16 → r.2.2.1 (x0 + 1) j = (σ.2.1 (x0 + 1) j ||| (zul (σ.2.1 (x0 + 1) j) (nI (2 ^ k)) &&& zWo k))) ?_ (fun r h => ⟨h.1, fun u hu => ?_⟩)
  · refine pt_lp (fun s : Int32 × zS => (0 ≤ s.1.toInt ∧ s.1.toInt ≤ 16) ∧ LF (x0 + 1) σ s.2 ∧ ∀ j, s.2.2.1 (x0 + 1) j = if (j : Int) < s.1.toInt then (σ.2.1 (x0 + 1) j ||| (zul (σ.2.1 (x0 + 1) j) (nI (2 ^ k)) &&& zWo k)) else σ.2.1 (x0 + 1) j) (fun again s hI ih => ?_) N _ ⟨(by decide : 0 ≤ (0 : Int32).toInt ∧ (0 : Int32).toInt ≤ 16), LF.rf, fun j => by rw [if_neg (by simp only [Int32.reduceToInt]; omega)]⟩
    obtain ⟨x2, τ⟩ := s
    obtain ⟨hb, hl, hj⟩ := hI
    have hb : 0 ≤ x2.toInt ∧ x2.toInt ≤ 16 := hb
    have hl : LF (x0 + 1) σ τ := hl
    have hj : ∀ j, τ.2.1 (x0 + 1) j = if (j : Int) < x2.toInt then (σ.2.1 (x0 + 1) j ||| (zul (σ.2.1 (x0 + 1) j) (nI (2 ^ k)) &&& zWo k)) else σ.2.1 (x0 + 1) j := hj
    have R9 := hl.R hR
    have r0 := (fam_R R9 h0).1
    rw [F_X2_lower_19.eq_1]
    refine pt_if (fun q => pt_some ⟨hl, fun j h => ?_⟩) (fun q => ?_)
    · rw [Int32.le_iff_toInt_le] at q
      simp only [Int32.reduceToInt] at q
      show τ.2.1 (x0 + 1) j = _
      rw [hj, if_pos (by omega)]
    · rw [Int32.le_iff_toInt_le] at q
      simp only [Int32.reduceToInt] at q
      have hw : 0 ≤ x2.toInt ∧ x2.toInt ≤ 100000 := by omega
      have hb1 : 0 ≤ (x2 + 1).toInt ∧ (x2 + 1).toInt ≤ 16 := by rw [a1_ hw]; omega
      have e0 : τ.2.1 (x0 + 1) x2.toInt.toNat = σ.2.1 (x0 + 1) x2.toInt.toNat := by rw [hj, if_neg (by omega)]
      have ek : (nI k).toInt.toNat = k := by rw [(sh1 k (by omega)).2]; omega
      refine pt_gR (v := x0 + 1) r0 (pt_aJ (pt_gR (v := x0 + 1) r0 (pt_aJ (pt_aW (pt_sJ ?_)))))
      rw [e0, ek, (sh1 k (by omega)).1]
      refine ih (x2 + 1, _) ⟨hb1, hl.sJ, fun j => ?_⟩
      show (zJ τ (x0 + 1) _).2.1 (x0 + 1) j = if (j : Int) < (x2 + 1).toInt then (σ.2.1 (x0 + 1) j ||| (zul (σ.2.1 (x0 + 1) j) (nI (2 ^ k)) &&& zWo k)) else σ.2.1 (x0 + 1) j
      rw [zJ_s, updL_i, a1_ hw, hj j]
      clear hb1
      by_cases e : j = x2.toInt.toNat
      · rw [if_pos e, if_pos (by omega), e]
      · rw [if_neg e]
        by_cases f : (j : Int) < x2.toInt
        · rw [if_pos f, if_pos (by omega)]
        · rw [if_neg f, if_neg (by omega)]

  · unfold bt
    rw [h.2 _ (by omega)]
    rw [Int64.toBitVec_or, BitVec.getLsbD_or, zulm hk hu, (fx6 k hk u hu).1.1]
theorem v_flip23 {k : Nat} (hR : RF σ.2.2) (h0 : (zKd x0).1 = 2) (hk : k < 6) : Pt (zlp (F_X2_flip_23 N x0 (nI k) (nI (2 ^ k))) N (0, σ)) (fun r => LF (x0 + 1) σ r.2 ∧ ∀ u, u < 1024 → bt (r.2.2.1 (x0 + 1)) u = bt (σ.2.1 (x0 + 1)) (u ^^^ 2 ^ k)) := by
  refine pt_w (Q := fun r => LF (x0 + 1) σ r.2 ∧ ∀ j, j < 16 → r.2.2.1 (x0 + 1) j = (zsl (σ.2.1 (x0 + 1) j &&& zWo k) (nI (2 ^ k)) ||| (zul (σ.2.1 (x0 + 1) j) (nI (2 ^ k)) &&& zWo k))) ?_ (fun r h => ⟨h.1, fun u hu => ?_⟩)
  · refine pt_lp (fun s : Int32 × zS => (0 ≤ s.1.toInt ∧ s.1.toInt ≤ 16) ∧ LF (x0 + 1) σ s.2 ∧ ∀ j, s.2.2.1 (x0 + 1) j = if (j : Int) < s.1.toInt then (zsl (σ.2.1 (x0 + 1) j &&& zWo k) (nI (2 ^ k)) ||| (zul (σ.2.1 (x0 + 1) j) (nI (2 ^ k)) &&& zWo k)) else σ.2.1 (x0 + 1) j) (fun again s hI ih => ?_) N _ ⟨(by decide : 0 ≤ (0 : Int32).toInt ∧ (0 : Int32).toInt ≤ 16), LF.rf, fun j => by rw [if_neg (by simp only [Int32.reduceToInt]; omega)]⟩
    obtain ⟨x2, τ⟩ := s
    obtain ⟨hb, hl, hj⟩ := hI
    have hb : 0 ≤ x2.toInt ∧ x2.toInt ≤ 16 := hb
    have hl : LF (x0 + 1) σ τ := hl
    have hj : ∀ j, τ.2.1 (x0 + 1) j = if (j : Int) < x2.toInt then (zsl (σ.2.1 (x0 + 1) j &&& zWo k) (nI (2 ^ k)) ||| (zul (σ.2.1 (x0 + 1) j) (nI (2 ^ k)) &&& zWo k)) else σ.2.1 (x0 + 1) j := hj
    have R9 := hl.R hR
    have r0 := (fam_R R9 h0).1
    rw [F_X2_flip_23.eq_1]
    refine pt_if (fun q => pt_some ⟨hl, fun j h => ?_⟩) (fun q => ?_)
    · rw [Int32.le_iff_toInt_le] at q
      simp only [Int32.reduceToInt] at q
      show τ.2.1 (x0 + 1) j = _
      rw [hj, if_pos (by omega)]
    · rw [Int32.le_iff_toInt_le] at q
      simp only [Int32.reduceToInt] at q
      have hw : 0 ≤ x2.toInt ∧ x2.toInt ≤ 100000 := by omega
      have hb1 : 0 ≤ (x2 + 1).toInt ∧ (x2 + 1).toInt ≤ 16 := by rw [a1_ hw]; omega
      have e0 : τ.2.1 (x0 + 1) x2.toInt.toNat = σ.2.1 (x0 + 1) x2.toInt.toNat := by rw [hj, if_neg (by omega)]
      have ek : (nI k).toInt.toNat = k := by rw [(sh1 k (by omega)).2]; omega
      refine pt_gR (v := x0 + 1) r0 (pt_gR (v := x0 + 1) r0 (pt_aJ (pt_aW (pt_gR (v := x0 + 1) r0 (pt_aJ (pt_aW (pt_sJ ?_)))))))
      rw [e0, ek]
      refine ih (x2 + 1, _) ⟨hb1, hl.sJ, fun j => ?_⟩
      show (zJ τ (x0 + 1) _).2.1 (x0 + 1) j = if (j : Int) < (x2 + 1).toInt then (zsl (σ.2.1 (x0 + 1) j &&& zWo k) (nI (2 ^ k)) ||| (zul (σ.2.1 (x0 + 1) j) (nI (2 ^ k)) &&& zWo k)) else σ.2.1 (x0 + 1) j
      rw [zJ_s, updL_i, a1_ hw, hj j]
      clear hb1
      by_cases e : j = x2.toInt.toNat
      · rw [if_pos e, if_pos (by omega), e]
      · rw [if_neg e]
        by_cases f : (j : Int) < x2.toInt
        · rw [if_pos f, if_pos (by omega)]
        · rw [if_neg f, if_neg (by omega)]

  · unfold bt
    rw [h.2 _ (by omega)]
    rw [Int64.toBitVec_or, BitVec.getLsbD_or, zslQ hk hu, zulm hk hu, (fx6 k hk u hu).1.1]
    cases u.testBit k <;> simp
theorem v_keep13 {k : Nat} (hR : RF σ.2.2) (h0 : (zKd x0).1 = 2) (hk : k < 6) : Pt (zlp (F_X2_keepWithout_13 N x0 (nI k)) N (0, σ)) (fun r => LF (x0 + 1) σ r.2 ∧ ∀ u, u < 1024 → bt (r.2.2.1 (x0 + 1)) u = (bt (σ.2.1 (x0 + 1)) u && !u.testBit k)) := by
  refine pt_w (Q := fun r => LF (x0 + 1) σ r.2 ∧ ∀ j, j < 16 → r.2.2.1 (x0 + 1) j = (σ.2.1 (x0 + 1) j &&& zWo k)) ?_ (fun r h => ⟨h.1, fun u hu => ?_⟩)
  · refine pt_lp (fun s : Int32 × zS => (0 ≤ s.1.toInt ∧ s.1.toInt ≤ 16) ∧ LF (x0 + 1) σ s.2 ∧ ∀ j, s.2.2.1 (x0 + 1) j = if (j : Int) < s.1.toInt then (σ.2.1 (x0 + 1) j &&& zWo k) else σ.2.1 (x0 + 1) j) (fun again s hI ih => ?_) N _ ⟨(by decide : 0 ≤ (0 : Int32).toInt ∧ (0 : Int32).toInt ≤ 16), LF.rf, fun j => by rw [if_neg (by simp only [Int32.reduceToInt]; omega)]⟩
    obtain ⟨x2, τ⟩ := s
    obtain ⟨hb, hl, hj⟩ := hI
    have hb : 0 ≤ x2.toInt ∧ x2.toInt ≤ 16 := hb
    have hl : LF (x0 + 1) σ τ := hl
    have hj : ∀ j, τ.2.1 (x0 + 1) j = if (j : Int) < x2.toInt then (σ.2.1 (x0 + 1) j &&& zWo k) else σ.2.1 (x0 + 1) j := hj
    have R9 := hl.R hR
    have r0 := (fam_R R9 h0).1
    rw [F_X2_keepWithout_13.eq_1]
    refine pt_if (fun q => pt_some ⟨hl, fun j h => ?_⟩) (fun q => ?_)
    · rw [Int32.le_iff_toInt_le] at q
      simp only [Int32.reduceToInt] at q
      show τ.2.1 (x0 + 1) j = _
      rw [hj, if_pos (by omega)]
    · rw [Int32.le_iff_toInt_le] at q
      simp only [Int32.reduceToInt] at q
      have hw : 0 ≤ x2.toInt ∧ x2.toInt ≤ 100000 := by omega
      have hb1 : 0 ≤ (x2 + 1).toInt ∧ (x2 + 1).toInt ≤ 16 := by rw [a1_ hw]; omega
      have e0 : τ.2.1 (x0 + 1) x2.toInt.toNat = σ.2.1 (x0 + 1) x2.toInt.toNat := by rw [hj, if_neg (by omega)]
      have ek : (nI k).toInt.toNat = k := by rw [(sh1 k (by omega)).2]; omega
      refine pt_if (fun z => absurd z (by rw [Int32.le_iff_toInt_le, (sh1 k (by omega)).2]; simp only [Int32.reduceToInt]; omega)) (fun _ => pt_gR (v := x0 + 1) r0 (pt_aJ (pt_aW (pt_sJ ?_))))
      rw [e0, ek]
      refine ih (x2 + 1, _) ⟨hb1, hl.sJ, fun j => ?_⟩
      show (zJ τ (x0 + 1) _).2.1 (x0 + 1) j = if (j : Int) < (x2 + 1).toInt then (σ.2.1 (x0 + 1) j &&& zWo k) else σ.2.1 (x0 + 1) j
      rw [zJ_s, updL_i, a1_ hw, hj j]
      clear hb1
      by_cases e : j = x2.toInt.toNat
      · rw [if_pos e, if_pos (by omega), e]
      · rw [if_neg e]
        by_cases f : (j : Int) < x2.toInt
        · rw [if_pos f, if_pos (by omega)]
        · rw [if_neg f, if_neg (by omega)]

  · unfold bt
    rw [h.2 _ (by omega)]
    rw [Int64.toBitVec_and, BitVec.getLsbD_and, zWo_b k hk _ (by omega), (fx6 k hk u hu).1.2.2]
theorem v_raise66 {k : Nat} (hR : RF σ.2.2) (h0 : (zKd x0).1 = 2) (hk : k < 4) : Pt (zlp (F_X2_raise_66 N x0 (nI (2 ^ k))) N (0, σ)) (fun r => LF (x0 + 1) σ r.2 ∧ ∀ j, j < 16 → r.2.2.1 (x0 + 1) j = (if j.testBit k = true then (σ.2.1 (x0 + 1) j ||| σ.2.1 (x0 + 1) (j ^^^ 2 ^ k)) else σ.2.1 (x0 + 1) j)) := by
  refine pt_lp (fun s : Int32 × zS => (0 ≤ s.1.toInt ∧ s.1.toInt ≤ 16) ∧ LF (x0 + 1) σ s.2 ∧ ∀ j, j < 16 → s.2.2.1 (x0 + 1) j = (if j.testBit k = true ∧ ((j ^^^ 2 ^ k : Nat) : Int) < s.1.toInt then (σ.2.1 (x0 + 1) j ||| σ.2.1 (x0 + 1) (j ^^^ 2 ^ k)) else σ.2.1 (x0 + 1) j)) (fun again s hI ih => ?_) N _ ⟨(by decide : 0 ≤ (0 : Int32).toInt ∧ (0 : Int32).toInt ≤ 16), LF.rf, fun j _ => by rw [if_neg (by simp only [Int32.reduceToInt]; omega)]⟩
  obtain ⟨x3, τ⟩ := s
  obtain ⟨hb, hl, hj⟩ := hI
  have hb : 0 ≤ x3.toInt ∧ x3.toInt ≤ 16 := hb
  have hl : LF (x0 + 1) σ τ := hl
  have hj : ∀ j, j < 16 → τ.2.1 (x0 + 1) j = (if j.testBit k = true ∧ ((j ^^^ 2 ^ k : Nat) : Int) < x3.toInt then (σ.2.1 (x0 + 1) j ||| σ.2.1 (x0 + 1) (j ^^^ 2 ^ k)) else σ.2.1 (x0 + 1) j) := hj
  have R9 := hl.R hR
  have r0 := (fam_R R9 h0).1
  obtain ⟨m, hm, rfl⟩ := znI (x := x3) (m := 17) hb.1 (by omega)
  have em : (nI m).toInt = (m : Int) := nI_toInt (by omega)
  have hw : 0 ≤ (nI m).toInt ∧ (nI m).toInt ≤ 100000 := by omega
  rw [em] at hj hb
  have p8 : 1 ≤ 2 ^ k ∧ 2 ^ k ≤ 8 := by
    rcases (show k = 0 ∨ k = 1 ∨ k = 2 ∨ k = 3 by omega) with rfl | rfl | rfl | rfl <;> decide
  have es : (nI m + nI (2 ^ k)).toInt = (m : Int) + ((2 ^ k : Nat) : Int) := by
    rw [ti_add, em, (p2k k (by omega)).2]; omega
  rw [F_X2_raise_66.eq_1]
  refine pt_if (fun q => pt_some ⟨hl, fun j h => ?_⟩) (fun q => ?_)
  · rw [Int32.le_iff_toInt_le, es] at q
    simp only [Int32.reduceToInt] at q
    show τ.2.1 (x0 + 1) j = _
    rw [hj j h]
    have g := gx k hk j h
    cases hb' : j.testBit k with
    | true =>
      have a := g.1.2 hb'
      rw [if_pos ⟨rfl, by omega⟩, if_pos rfl]
    | false => rw [if_neg (fun z => by cases z.1), if_neg (by simp)]
  · rw [Int32.le_iff_toInt_le, es] at q
    simp only [Int32.reduceToInt] at q
    have hm16 : m < 16 := by omega
    have g := gx k hk m hm16
    have hb1 : 0 ≤ (nI m + 1).toInt ∧ (nI m + 1).toInt ≤ 16 := by rw [a1_ hw, em]; omega
    have e1 : (nI m + 1).toInt = (m : Int) + 1 := by rw [a1_ hw, em]
    have inj : ∀ j, j < 16 → (j ^^^ 2 ^ k = m ↔ j = m ^^^ 2 ^ k) := fun j h => ⟨fun z => by rw [← z, (gx k hk j h).2.1], fun z => by rw [z, g.2.1]⟩
    refine pt_if (fun z => ?_) (fun z => ?_)
    · have mb := g.2.2.2.mp z
      have a := g.1.1 mb
      refine pt_gR (v := x0 + 1) r0 (pt_aJ (pt_gR (v := x0 + 1) r0 (pt_aJ (pt_sJ (ih (nI m + 1, _) ⟨hb1, hl.sJ, fun j h => ?_⟩)))))
      show (zJ τ (x0 + 1) _).2.1 (x0 + 1) j = (if j.testBit k = true ∧ ((j ^^^ 2 ^ k : Nat) : Int) < (nI m + 1).toInt then _ else _)
      have e2 : ((m : Int) + ((2 ^ k : Nat) : Int)).toNat = m ^^^ 2 ^ k := by rw [← a.1]; omega
      rw [zJ_s, updL_i, es, e1, em, e2, Int.toNat_natCast, hj j h, hj _ g.2.2.1, hj m hm16, if_neg (show ¬ ((m ^^^ 2 ^ k).testBit k = true ∧ (((m ^^^ 2 ^ k) ^^^ 2 ^ k : Nat) : Int) < (m : Int)) by rw [g.2.1]; omega), if_neg (show ¬ (m.testBit k = true ∧ ((m ^^^ 2 ^ k : Nat) : Int) < (m : Int)) by rw [mb]; simp)]
      clear es e1 hb1
      by_cases e : j = m ^^^ 2 ^ k
      · subst e
        rw [if_pos rfl, if_pos ⟨a.2, by rw [g.2.1]; omega⟩, g.2.1]
      · rw [if_neg e]
        have ne : j ^^^ 2 ^ k ≠ m := fun z => e ((inj j h).mp z)
        by_cases c : j.testBit k = true ∧ ((j ^^^ 2 ^ k : Nat) : Int) < (m : Int)
        · rw [if_pos c, if_pos ⟨c.1, by omega⟩]
        · rw [if_neg c, if_neg (fun y => c ⟨y.1, by omega⟩)]
    · have mb : m.testBit k = true := by
        cases hh : m.testBit k with
        | true => rfl
        | false => exact absurd (g.2.2.2.mpr hh) z
      refine ih (nI m + 1, τ) ⟨hb1, hl, fun j h => ?_⟩
      show τ.2.1 (x0 + 1) j = (if j.testBit k = true ∧ ((j ^^^ 2 ^ k : Nat) : Int) < (nI m + 1).toInt then _ else _)
      rw [hj j h, e1]
      clear es e1 hb1
      by_cases c : j.testBit k = true ∧ ((j ^^^ 2 ^ k : Nat) : Int) < (m : Int)
      · rw [if_pos c, if_pos ⟨c.1, by omega⟩]
      · rw [if_neg c, if_neg (fun y => c ⟨y.1, ?_⟩)]
        have ne : j ^^^ 2 ^ k ≠ m := fun z => by
          have := (inj j h).mp z
          rw [this, (g.1.2 mb).1] at y
          cases y.1
        omega

theorem v_lower66 {k : Nat} (hR : RF σ.2.2) (h0 : (zKd x0).1 = 2) (hk : k < 4) : Pt (zlp (F_X2_lower_66 N x0 (nI (2 ^ k))) N (0, σ)) (fun r => LF (x0 + 1) σ r.2 ∧ ∀ j, j < 16 → r.2.2.1 (x0 + 1) j = (if j.testBit k = false then (σ.2.1 (x0 + 1) j ||| σ.2.1 (x0 + 1) (j ^^^ 2 ^ k)) else σ.2.1 (x0 + 1) j)) := by
  refine pt_lp (fun s : Int32 × zS => (0 ≤ s.1.toInt ∧ s.1.toInt ≤ 16) ∧ LF (x0 + 1) σ s.2 ∧ ∀ j, j < 16 → s.2.2.1 (x0 + 1) j = (if j.testBit k = false ∧ (j : Int) < s.1.toInt then (σ.2.1 (x0 + 1) j ||| σ.2.1 (x0 + 1) (j ^^^ 2 ^ k)) else σ.2.1 (x0 + 1) j)) (fun again s hI ih => ?_) N _ ⟨(by decide : 0 ≤ (0 : Int32).toInt ∧ (0 : Int32).toInt ≤ 16), LF.rf, fun j _ => by rw [if_neg (by simp only [Int32.reduceToInt]; omega)]⟩
  obtain ⟨x3, τ⟩ := s
  obtain ⟨hb, hl, hj⟩ := hI
  have hb : 0 ≤ x3.toInt ∧ x3.toInt ≤ 16 := hb
  have hl : LF (x0 + 1) σ τ := hl
  have hj : ∀ j, j < 16 → τ.2.1 (x0 + 1) j = (if j.testBit k = false ∧ (j : Int) < x3.toInt then (σ.2.1 (x0 + 1) j ||| σ.2.1 (x0 + 1) (j ^^^ 2 ^ k)) else σ.2.1 (x0 + 1) j) := hj
  have R9 := hl.R hR
  have r0 := (fam_R R9 h0).1
  obtain ⟨m, hm, rfl⟩ := znI (x := x3) (m := 17) hb.1 (by omega)
  have em : (nI m).toInt = (m : Int) := nI_toInt (by omega)
  have hw : 0 ≤ (nI m).toInt ∧ (nI m).toInt ≤ 100000 := by omega
  rw [em] at hj hb
  have p8 : 1 ≤ 2 ^ k ∧ 2 ^ k ≤ 8 := by
    rcases (show k = 0 ∨ k = 1 ∨ k = 2 ∨ k = 3 by omega) with rfl | rfl | rfl | rfl <;> decide
  have es : (nI m + nI (2 ^ k)).toInt = (m : Int) + ((2 ^ k : Nat) : Int) := by
    rw [ti_add, em, (p2k k (by omega)).2]; omega
  rw [F_X2_lower_66.eq_1]
  refine pt_if (fun q => pt_some ⟨hl, fun j h => ?_⟩) (fun q => ?_)
  · rw [Int32.le_iff_toInt_le, es] at q
    simp only [Int32.reduceToInt] at q
    show τ.2.1 (x0 + 1) j = _
    rw [hj j h]
    have g := gx k hk j h
    cases hb' : j.testBit k with
    | false =>
      have a := g.1.1 hb'
      rw [if_pos ⟨rfl, by omega⟩, if_pos rfl]
    | true => rw [if_neg (fun z => by cases z.1), if_neg (by simp)]
  · rw [Int32.le_iff_toInt_le, es] at q
    simp only [Int32.reduceToInt] at q
    have hm16 : m < 16 := by omega
    have g := gx k hk m hm16
    have hb1 : 0 ≤ (nI m + 1).toInt ∧ (nI m + 1).toInt ≤ 16 := by rw [a1_ hw, em]; omega
    have e1 : (nI m + 1).toInt = (m : Int) + 1 := by rw [a1_ hw, em]
    have inj : ∀ j, j < 16 → (j ^^^ 2 ^ k = m ↔ j = m ^^^ 2 ^ k) := fun j h => ⟨fun z => by rw [← z, (gx k hk j h).2.1], fun z => by rw [z, g.2.1]⟩
    refine pt_if (fun z => ?_) (fun z => ?_)
    · have mb := g.2.2.2.mp z
      have a := g.1.1 mb
      refine pt_gR (v := x0 + 1) r0 (pt_aJ (pt_gR (v := x0 + 1) r0 (pt_aJ (pt_sJ (ih (nI m + 1, _) ⟨hb1, hl.sJ, fun j h => ?_⟩)))))
      show (zJ τ (x0 + 1) _).2.1 (x0 + 1) j = (if j.testBit k = false ∧ (j : Int) < (nI m + 1).toInt then _ else _)
      have e2 : ((m : Int) + ((2 ^ k : Nat) : Int)).toNat = m ^^^ 2 ^ k := by rw [← a.1]; omega
      rw [zJ_s, updL_i, es, e1, em, e2, Int.toNat_natCast, hj j h, hj _ g.2.2.1, hj m hm16, if_neg (show ¬ ((m ^^^ 2 ^ k).testBit k = false ∧ ((m ^^^ 2 ^ k : Nat) : Int) < (m : Int)) by rw [a.2]; simp), if_neg (show ¬ (m.testBit k = false ∧ (m : Int) < (m : Int)) by omega)]
      clear es e1 hb1
      by_cases e : j = m
      · subst e
        rw [if_pos rfl, if_pos ⟨mb, by omega⟩]
      · rw [if_neg e]
        by_cases c : j.testBit k = false ∧ (j : Int) < (m : Int)
        · rw [if_pos c, if_pos ⟨c.1, by omega⟩]
        · rw [if_neg c, if_neg (fun y => c ⟨y.1, by omega⟩)]
    · have mb : m.testBit k = true := by
        cases hh : m.testBit k with
        | true => rfl
        | false => exact absurd (g.2.2.2.mpr hh) z
      refine ih (nI m + 1, τ) ⟨hb1, hl, fun j h => ?_⟩
      show τ.2.1 (x0 + 1) j = (if j.testBit k = false ∧ (j : Int) < (nI m + 1).toInt then _ else _)
      rw [hj j h, e1]
      clear es e1 hb1
      by_cases c : j.testBit k = false ∧ (j : Int) < (m : Int)
      · rw [if_pos c, if_pos ⟨c.1, by omega⟩]
      · rw [if_neg c, if_neg (fun y => c ⟨y.1, ?_⟩)]
        have ne : j ≠ m := fun z => by
          rw [z, mb] at y
          cases y.1
        omega

theorem v_flip80 {k : Nat} (hR : RF σ.2.2) (h0 : (zKd x0).1 = 2) (hk : k < 4) : Pt (zlp (F_X2_flip_80 N x0 (nI (2 ^ k))) N (0, σ)) (fun r => LF (x0 + 1) σ r.2 ∧ ∀ j, j < 16 → r.2.2.1 (x0 + 1) j = σ.2.1 (x0 + 1) (j ^^^ 2 ^ k)) := by
  refine pt_lp (fun s : Int32 × zS => (0 ≤ s.1.toInt ∧ s.1.toInt ≤ 16) ∧ LF (x0 + 1) σ s.2 ∧ ∀ j, j < 16 → s.2.2.1 (x0 + 1) j = (if ((if j.testBit k = true then (j ^^^ 2 ^ k) else j : Nat) : Int) < s.1.toInt then σ.2.1 (x0 + 1) (j ^^^ 2 ^ k) else σ.2.1 (x0 + 1) j)) (fun again s hI ih => ?_) N _ ⟨(by decide : 0 ≤ (0 : Int32).toInt ∧ (0 : Int32).toInt ≤ 16), LF.rf, fun j _ => by rw [if_neg (by simp only [Int32.reduceToInt]; omega)]⟩
  obtain ⟨x3, τ⟩ := s
  obtain ⟨hb, hl, hj⟩ := hI
  have hb : 0 ≤ x3.toInt ∧ x3.toInt ≤ 16 := hb
  have hl : LF (x0 + 1) σ τ := hl
  have hj : ∀ j, j < 16 → τ.2.1 (x0 + 1) j = (if ((if j.testBit k = true then (j ^^^ 2 ^ k) else j : Nat) : Int) < x3.toInt then σ.2.1 (x0 + 1) (j ^^^ 2 ^ k) else σ.2.1 (x0 + 1) j) := hj
  have R9 := hl.R hR
  have r0 := (fam_R R9 h0).1
  obtain ⟨m, hm, rfl⟩ := znI (x := x3) (m := 17) hb.1 (by omega)
  have em : (nI m).toInt = (m : Int) := nI_toInt (by omega)
  have hw : 0 ≤ (nI m).toInt ∧ (nI m).toInt ≤ 100000 := by omega
  rw [em] at hj hb
  have p8 : 1 ≤ 2 ^ k ∧ 2 ^ k ≤ 8 := by
    rcases (show k = 0 ∨ k = 1 ∨ k = 2 ∨ k = 3 by omega) with rfl | rfl | rfl | rfl <;> decide
  have es : (nI m + nI (2 ^ k)).toInt = (m : Int) + ((2 ^ k : Nat) : Int) := by
    rw [ti_add, em, (p2k k (by omega)).2]; omega
  rw [F_X2_flip_80.eq_1]
  refine pt_if (fun q => pt_some ⟨hl, fun j h => ?_⟩) (fun q => ?_)
  · rw [Int32.le_iff_toInt_le, es] at q
    simp only [Int32.reduceToInt] at q
    show τ.2.1 (x0 + 1) j = _
    rw [hj j h]
    have g := gx k hk j h
    cases hb' : j.testBit k with
    | false =>
      have a := g.1.1 hb'
      rw [if_pos (by simp; omega)]
    | true =>
      have a := g.1.2 hb'
      rw [if_pos (by simp; omega)]
  · rw [Int32.le_iff_toInt_le, es] at q
    simp only [Int32.reduceToInt] at q
    have hm16 : m < 16 := by omega
    have g := gx k hk m hm16
    have hb1 : 0 ≤ (nI m + 1).toInt ∧ (nI m + 1).toInt ≤ 16 := by rw [a1_ hw, em]; omega
    have e1 : (nI m + 1).toInt = (m : Int) + 1 := by rw [a1_ hw, em]
    have inj : ∀ j, j < 16 → (j ^^^ 2 ^ k = m ↔ j = m ^^^ 2 ^ k) := fun j h => ⟨fun z => by rw [← z, (gx k hk j h).2.1], fun z => by rw [z, g.2.1]⟩
    refine pt_if (fun z => ?_) (fun z => ?_)
    · have mb := g.2.2.2.mp z
      have a := g.1.1 mb
      refine pt_gR (v := x0 + 1) r0 (pt_aJ (pt_gR (v := x0 + 1) r0 (pt_gR (v := x0 + 1) r0 (pt_aJ (pt_sJ (pt_gR (v := x0 + 1) r0 (pt_sJ (ih (nI m + 1, _) ⟨hb1, hl.sJ.sJ, fun j h => ?_⟩))))))))
      show (zJ (zJ τ (x0 + 1) _) (x0 + 1) _).2.1 (x0 + 1) j = (if ((if j.testBit k = true then (j ^^^ 2 ^ k) else j : Nat) : Int) < (nI m + 1).toInt then _ else _)
      have e2 : ((m : Int) + ((2 ^ k : Nat) : Int)).toNat = m ^^^ 2 ^ k := by rw [← a.1]; omega
      rw [zJ_s, zJ_s, updL_i, updL_i, es, e1, em, e2, Int.toNat_natCast, hj j h, hj _ g.2.2.1, hj m hm16, if_neg (show ¬ ((if (m ^^^ 2 ^ k).testBit k = true then ((m ^^^ 2 ^ k) ^^^ 2 ^ k) else (m ^^^ 2 ^ k) : Nat) : Int) < (m : Int) by rw [if_pos a.2, g.2.1]; omega), if_neg (show ¬ ((if m.testBit k = true then (m ^^^ 2 ^ k) else m : Nat) : Int) < (m : Int) by rw [if_neg (by rw [mb]; simp)]; omega)]
      clear es e1 hb1
      by_cases e : j = m ^^^ 2 ^ k
      · subst e
        rw [if_pos rfl, if_pos (show ((if (m ^^^ 2 ^ k).testBit k = true then ((m ^^^ 2 ^ k) ^^^ 2 ^ k) else (m ^^^ 2 ^ k) : Nat) : Int) < (m : Int) + 1 by rw [if_pos a.2, g.2.1]; omega), g.2.1]
      · rw [if_neg e]
        by_cases e' : j = m
        · subst e'
          rw [if_pos rfl, if_pos (show ((if j.testBit k = true then (j ^^^ 2 ^ k) else j : Nat) : Int) < (j : Int) + 1 by rw [if_neg (by rw [mb]; simp)]; omega)]
        · rw [if_neg e']
          have ne : j ^^^ 2 ^ k ≠ m := fun z => e ((inj j h).mp z)
          by_cases c : ((if j.testBit k = true then (j ^^^ 2 ^ k) else j : Nat) : Int) < (m : Int)
          · rw [if_pos c, if_pos (by omega)]
          · obtain ⟨w, hw⟩ : ∃ w : Nat, w = (if j.testBit k = true then (j ^^^ 2 ^ k) else j) := ⟨_, rfl⟩
            rw [← hw] at c ⊢
            have wm : w ≠ m := fun y => by
              rw [hw] at y
              split at y
              · exact ne y
              · exact e' y
            rw [if_neg c, if_neg (by omega)]
    · have mb : m.testBit k = true := by
        cases hh : m.testBit k with
        | true => rfl
        | false => exact absurd (g.2.2.2.mpr hh) z
      refine ih (nI m + 1, τ) ⟨hb1, hl, fun j h => ?_⟩
      show τ.2.1 (x0 + 1) j = (if ((if j.testBit k = true then (j ^^^ 2 ^ k) else j : Nat) : Int) < (nI m + 1).toInt then _ else _)
      rw [hj j h, e1]
      clear es e1 hb1
      by_cases c : ((if j.testBit k = true then (j ^^^ 2 ^ k) else j : Nat) : Int) < (m : Int)
      · rw [if_pos c, if_pos (by omega)]
      · have n1 : j.testBit k = true → j ^^^ 2 ^ k ≠ m := fun hb' z => by
          rw [(inj j h).mp z, (g.1.2 mb).1] at hb'
          cases hb'
        have n2 : ¬ j.testBit k = true → j ≠ m := fun hb' z => hb' (by rw [z]; exact mb)
        rw [if_neg c, if_neg ?_]
        split at c
        · rename_i y
          rw [if_pos y]
          have := n1 y
          omega
        · rename_i y
          rw [if_neg y]
          have := n2 y
          omega

end FAM

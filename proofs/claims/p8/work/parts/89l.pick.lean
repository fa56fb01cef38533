/-! ===== the least bit, the first member, the i-th ===== -/
section PICK
variable {N x0 : Nat} {σ : zS} {s : Nat}
/-- t is the least bit of X -/
def lb (X t : Nat) : Prop := X.testBit t = true ∧ ∀ i, i < t → X.testBit i = false
theorem lb_form {X t : Nat} (h : lb X t) : ∃ q, X = 2 ^ (t + 1) * q + 2 ^ t := by
  refine ⟨X / 2 ^ (t + 1), ?_⟩
  have e : X % 2 ^ (t + 1) = 2 ^ t := by
    apply Nat.eq_of_testBit_eq
    intro i
    rw [Nat.testBit_mod_two_pow, Nat.testBit_two_pow]
    by_cases a : i < t
    · rw [h.2 i a, decide_eq_false (show ¬ t = i by omega), Bool.and_false]
    · by_cases b : t = i
      · subst b
        rw [h.1, decide_eq_true rfl, decide_eq_true (by omega)]; rfl
      · rw [decide_eq_false (show ¬ i < t + 1 by omega), decide_eq_false b, Bool.false_and]
  have := Nat.div_add_mod X (2 ^ (t + 1))
  rw [e] at this
  exact this.symm
theorem lb_pred {X t : Nat} (h : lb X t) (i : Nat) : (X - 1).testBit i = if i < t + 1 then decide (i < t) else X.testBit i := by
  obtain ⟨q, e⟩ := lb_form h
  have p : 0 < 2 ^ t := Nat.pow_pos (by decide)
  have p2 : 2 ^ t < 2 ^ (t + 1) := Nat.pow_lt_pow_right (by decide) (by omega)
  have e1 : X - 1 = 2 ^ (t + 1) * q + (2 ^ t - 1) := by omega
  rw [e1, Nat.testBit_two_pow_mul_add q (by omega)]
  by_cases a : i < t + 1
  · rw [if_pos a, if_pos a, Nat.testBit_two_pow_sub_one]
  · rw [if_neg a, if_neg a, e, Nat.testBit_two_pow_mul_add q p2, if_neg a]
theorem lb_pos {X t : Nat} (h : lb X t) : 1 ≤ X := by
  cases X with
  | zero => have := h.1; rw [Nat.zero_testBit] at this; cases this
  | succ n => omega
theorem ntz_low {x : Int32} {t : Nat} (h : lb x.toBitVec.toNat t) (ht : t < 32) : ((x ^^^ (-1)) &&& (x - 1)) = nI (2 ^ t - 1) := by
  apply Int32.toBitVec_inj.mp
  apply BitVec.eq_of_getLsbD_eq
  intro i hi
  have p := lb_pos h
  have hl := x.toBitVec.isLt
  have e1 : (x - 1).toBitVec.toNat = x.toBitVec.toNat - 1 := by
    rw [Int32.toBitVec_sub, BitVec.toNat_sub]
    have : (1 : Int32).toBitVec.toNat = 1 := rfl
    rw [this]
    omega
  have e2 : (nI (2 ^ t - 1)).toBitVec.toNat = 2 ^ t - 1 := by
    have : 2 ^ t < 2 ^ 32 := Nat.pow_lt_pow_right (by decide) ht
    show (BitVec.ofNat 32 (2 ^ t - 1)).toNat = _
    rw [BitVec.toNat_ofNat]
    exact Nat.mod_eq_of_lt (by omega)
  rw [Int32.toBitVec_and, BitVec.getLsbD_and, Int32.toBitVec_xor, BitVec.getLsbD_xor]
  have m : (-1 : Int32).toBitVec = BitVec.allOnes 32 := rfl
  rw [m, BitVec.getLsbD_allOnes, decide_eq_true hi, Bool.xor_true]
  show (!x.toBitVec.toNat.testBit i && (x - 1).toBitVec.toNat.testBit i) = (nI (2 ^ t - 1)).toBitVec.toNat.testBit i
  rw [e1, e2, lb_pred h, Nat.testBit_two_pow_sub_one]
  by_cases a : i < t
  · rw [if_pos (by omega), h.2 i a, decide_eq_true a]; rfl
  · by_cases b : i = t
    · subst b
      rw [h.1, if_pos (by omega), decide_eq_false a]; rfl
    · rw [if_neg (by omega), decide_eq_false a]
      cases x.toBitVec.toNat.testBit i <;> rfl
theorem ntz_t : ∀ t : Nat, t < 32 → (if 0 < nI (2 ^ t - 1) then (if nI (2 ^ t - 1) ≤ 65536 then n34 (nI (2 ^ t - 1)) 1 else n34 (zus (nI (2 ^ t - 1)) 16) (1 + 16)) else nI (2 ^ t - 1) &&& 32).toInt = (t : Int) := by decide +kernel
theorem ntz32_e {x : Int32} {t : Nat} (h : lb x.toBitVec.toNat t) (ht : t < 32) : (ntz32 x).toInt = (t : Int) := by
  unfold ntz32
  rw [ntz_low h ht]
  exact ntz_t t ht
theorem ti32_n (y : Int64) : (Int64.toInt32 y).toBitVec.toNat = y.toBitVec.toNat % 2 ^ 32 := by
  rw [Int64.toBitVec_toInt32, BitVec.signExtend_eq_setWidth_of_le _ (by decide), BitVec.toNat_setWidth]
theorem ntz64_e {x : Int64} {t : Nat} (h : lb x.toBitVec.toNat t) (ht : t < 64) : (ntz64 x).toInt = (t : Int) := by
  have z : Int64.toInt32 x = 0 ↔ 32 ≤ t := by
    constructor
    · intro q
      have q2 := congrArg (fun v => v.toBitVec.toNat.testBit t) q
      by_cases a : 32 ≤ t
      · exact a
      · have : (Int64.toInt32 x).toBitVec.toNat.testBit t = true := by
          rw [ti32_n, Nat.testBit_mod_two_pow, decide_eq_true (by omega), h.1]; rfl
        have q2 : (Int64.toInt32 x).toBitVec.toNat.testBit t = (0 : Int32).toBitVec.toNat.testBit t := q2
        have z0 : (0 : Int32).toBitVec.toNat = 0 := rfl
        rw [this, z0, Nat.zero_testBit] at q2
        cases q2
    · intro q
      apply Int32.toBitVec_inj.mp
      apply BitVec.eq_of_toNat_eq
      rw [ti32_n]
      have z0 : (0 : Int32).toBitVec.toNat = 0 := rfl
      rw [z0]
      apply Nat.eq_of_testBit_eq
      intro i
      rw [Nat.testBit_mod_two_pow, Nat.zero_testBit]
      by_cases a : i < 32
      · rw [h.2 i (by omega), Bool.and_false]
      · rw [decide_eq_false a, Bool.false_and]
  unfold ntz64
  by_cases a : Int64.toInt32 x = 0
  · have t32 := z.mp a
    have e := zul_bv x (n := 32) (by decide)
    rw [show nI 32 = 32 from rfl] at e
    have l : lb (Int64.toInt32 (zul x 32)).toBitVec.toNat (t - 32) := by
      rw [ti32_n, e, BitVec.toNat_ushiftRight]
      refine ⟨?_, fun i hi => ?_⟩
      · rw [Nat.testBit_mod_two_pow, decide_eq_true (by omega), Nat.testBit_shiftRight, show 32 + (t - 32) = t by omega, h.1]; rfl
      · rw [Nat.testBit_mod_two_pow, Nat.testBit_shiftRight, h.2 _ (by omega), Bool.and_false]
    have v := ntz32_e l (by omega)
    rw [if_pos a, ti_add, v]
    simp only [Int32.reduceToInt]
    omega
  · have t32 : t < 32 := by
      by_cases q : t < 32
      · exact q
      · exact absurd (z.mpr (by omega)) a
    rw [if_neg a]
    refine ntz32_e ?_ t32
    rw [ti32_n]
    refine ⟨?_, fun i hi => ?_⟩
    · rw [Nat.testBit_mod_two_pow, decide_eq_true t32, h.1]; rfl
    · rw [Nat.testBit_mod_two_pow, h.2 i hi, Bool.and_false]
theorem v_ntz {x : Int64} : Px (f_J13_numberOfTrailingZeros_95d88 N x σ) σ (fun v => ∀ t, t < 64 → lb x.toBitVec.toNat t → v.toInt = (t : Int)) := by
  rw [f_ntz64]
  exact pt_some ⟨rfl, fun t ht h => ntz64_e h ht⟩
/-- a long that is not 0 has a least bit -/
theorem lb_ex {x : Int64} (h : ¬ x = 0) : ∃ t, t < 64 ∧ lb x.toBitVec.toNat t := by
  have ex : ∃ n, n ≤ 64 ∧ ∃ i, i < n ∧ x.toBitVec.toNat.testBit i = true := by
    refine ⟨64, Nat.le_refl _, ?_⟩
    by_cases q : ∃ i, i < 64 ∧ x.toBitVec.toNat.testBit i = true
    · exact q
    · refine absurd ?_ h
      apply Int64.toBitVec_inj.mp
      apply BitVec.eq_of_getLsbD_eq
      intro i hi
      have : x.toBitVec.getLsbD i = false := by
        cases e : x.toBitVec.getLsbD i with
        | false => rfl
        | true => exact absurd ⟨i, hi, e⟩ q
      rw [this]
      exact BitVec.getLsbD_zero.symm
  obtain ⟨n, hn, i, hi, hb⟩ := ex
  have : ∀ m, m ≤ 64 → (∃ i, i < m ∧ x.toBitVec.toNat.testBit i = true) → ∃ t, t < 64 ∧ lb x.toBitVec.toNat t := by
    intro m
    induction m with
    | zero => intro _ ⟨i, hi, _⟩; omega
    | succ m ih =>
      intro hm ⟨i, hi, hb⟩
      by_cases q : ∃ i, i < m ∧ x.toBitVec.toNat.testBit i = true
      · exact ih (by omega) q
      · have e : i = m := by
          by_cases z : i = m
          · exact z
          · exact absurd ⟨i, by omega, hb⟩ q
        subst e
        refine ⟨i, by omega, hb, fun j hj => ?_⟩
        cases e : x.toBitVec.toNat.testBit j with
        | false => rfl
        | true => exact absurd ⟨j, hj, e⟩ q
  exact this n hn ⟨i, hi, hb⟩
/-- the least bit goes -/
theorem clr {x : Int64} {t : Nat} (h : lb x.toBitVec.toNat t) (j : Nat) : (x &&& (x - 1)).toBitVec.getLsbD j = (x.toBitVec.getLsbD j && !decide (j = t)) := by
  have p := lb_pos h
  have hl := x.toBitVec.isLt
  have e1 : (x - 1).toBitVec.toNat = x.toBitVec.toNat - 1 := by
    rw [Int64.toBitVec_sub, BitVec.toNat_sub]
    have : (1 : Int64).toBitVec.toNat = 1 := rfl
    rw [this]
    omega
  rw [Int64.toBitVec_and, BitVec.getLsbD_and]
  show (x.toBitVec.toNat.testBit j && (x - 1).toBitVec.toNat.testBit j) = (x.toBitVec.toNat.testBit j && !decide (j = t))
  rw [e1, lb_pred h]
  by_cases a : j < t
  · rw [h.2 j a]; rfl
  · by_cases b : j = t
    · rw [if_pos (by omega), decide_eq_false a, decide_eq_true b]; rfl
    · rw [if_neg (by omega), decide_eq_false b]
      cases x.toBitVec.toNat.testBit j <;> rfl
theorem v_bitCount {x : Int64} : Px (f_J13_bitCount_95d88 N x σ) σ (fun v => v.toInt = (ct (fun i => x.toBitVec.getLsbD i) 64 : Int)) := by
  obtain ⟨v, h1, h2⟩ := bitCount N x σ
  rw [h1]
  exact pt_some ⟨rfl, h2⟩
theorem bt_w {w : Nat → Int64} {m k : Nat} (hk : k < 64) : bt w (64 * m + k) = (w m).toBitVec.getLsbD k := by
  unfold bt
  rw [show (64 * m + k) / 64 = m by omega, show (64 * m + k) % 64 = k by omega]
theorem ct_w {w : Nat → Int64} {m k : Nat} (hk : k ≤ 64) : ct (bt w) (64 * m + k) = ct (bt w) (64 * m) + ct (fun i => (w m).toBitVec.getLsbD i) k := by
  rw [ct_split]
  congr 1
  exact ct_c (fun i hi => bt_w (by omega))
/-- how many -/
theorem v_tally (hR : RF σ.2.2) (h0 : (zKd x0).1 = 2) : Px (f_X2_tally N x0 σ) σ (fun v => v.toInt = (ct (bt (σ.2.1 (x0 + 1))) 1024 : Int)) := by
  have r0 := (fam_R hR h0).1
  rw [f_X2_tally.eq_1]
  refine pt_lp (fun s : Int32 × Int32 × zS => s.2.2 = σ ∧ (0 ≤ s.2.1.toInt ∧ s.2.1.toInt ≤ 16) ∧ s.1.toInt = (ct (bt (σ.2.1 (x0 + 1))) (64 * s.2.1.toInt.toNat) : Int)) (fun again s hI ih => ?_) N _ ⟨rfl, (by decide : 0 ≤ (0 : Int32).toInt ∧ (0 : Int32).toInt ≤ 16), rfl⟩
  obtain ⟨x1, x2, τ⟩ := s
  obtain ⟨e, hb, hc⟩ := hI
  have e : τ = σ := e
  subst e
  have hb : 0 ≤ x2.toInt ∧ x2.toInt ≤ 16 := hb
  have hc : x1.toInt = (ct (bt (τ.2.1 (x0 + 1))) (64 * x2.toInt.toNat) : Int) := hc
  rw [F_X2_tally_4.eq_1]
  refine pt_if (fun q => pt_some ⟨rfl, ?_⟩) (fun q => ?_)
  · rw [Int32.le_iff_toInt_le] at q
    simp only [Int32.reduceToInt] at q
    show x1.toInt = _
    rw [hc, show x2.toInt.toNat = 16 by omega]
  · rw [Int32.le_iff_toInt_le] at q
    simp only [Int32.reduceToInt] at q
    have hw : 0 ≤ x2.toInt ∧ x2.toInt ≤ 100000 := by omega
    have hb1 : 0 ≤ (x2 + 1).toInt ∧ (x2 + 1).toInt ≤ 16 := by rw [a1_ hw]; omega
    refine pt_gR (v := x0 + 1) r0 (pt_aJ (pt_zbq v_bitCount (fun v hv => ih (x1 + v, x2 + 1, τ) ⟨rfl, hb1, ?_⟩)))
    show (x1 + v).toInt = (ct (bt (τ.2.1 (x0 + 1))) (64 * (x2 + 1).toInt.toNat) : Int)
    have l1 := ct_le (bt (τ.2.1 (x0 + 1))) (64 * x2.toInt.toNat)
    have l2 := ct_le (fun i => (τ.2.1 (x0 + 1) x2.toInt.toNat).toBitVec.getLsbD i) 64
    have e2 := ct_w (w := τ.2.1 (x0 + 1)) (m := x2.toInt.toNat) (k := 64) (Nat.le_refl _)
    rw [show (x2 + 1).toInt.toNat = x2.toInt.toNat + 1 by rw [a1_ hw]; omega, show 64 * (x2.toInt.toNat + 1) = 64 * x2.toInt.toNat + 64 by omega, e2, ti_add, hc, hv]
    clear hb1
    omega
theorem msk : ∀ m, m < 64 → ∀ j, j < 64 → ((zsl 1 (nI m)) - 1).toBitVec.getLsbD j = decide (j < m) := by decide +kernel
/-- how many are less -/
theorem v_tallyBelow (hR : RF σ.2.2) (h0 : (zKd x0).1 = 2) (hs : s < 1024) : Px (f_X2_tallyBelow N x0 (nI s) σ) σ (fun v => v.toInt = (ct (bt (σ.2.1 (x0 + 1))) s : Int)) := by
  have r0 := (fam_R hR h0).1
  have es : (nI s).toInt = (s : Int) := nI_toInt (by omega)
  have fin : ∀ x2 : Int32, x2.toInt = (ct (bt (σ.2.1 (x0 + 1))) (64 * (s / 64)) : Int) → Px (J_X2_tallyBelow_36 N x0 (nI s) x2 σ) σ (fun v => v.toInt = (ct (bt (σ.2.1 (x0 + 1))) s : Int)) := fun x2 hc => by
    rw [J_X2_tallyBelow_36.eq_1]
    refine pt_if (fun q => absurd q (by rw [Int32.lt_iff_toInt_lt, es]; simp only [Int32.reduceToInt]; omega)) (fun _ => pt_if (fun q => absurd q (by rw [Int32.le_iff_toInt_le, es]; simp only [Int32.reduceToInt]; omega)) (fun _ => ?_))
    refine pt_gR (v := x0 + 1) r0 (pt_aJ ?_)
    rw [(sx6 s hs).1, (sx6 s hs).2, Int.toNat_natCast]
    refine pt_zbq v_bitCount (fun v hv => pt_some ⟨rfl, ?_⟩)
    have e : ct (fun i => (σ.2.1 (x0 + 1) (s / 64) &&& (zsl 1 (nI (s % 64)) - 1)).toBitVec.getLsbD i) 64 = ct (fun i => (σ.2.1 (x0 + 1) (s / 64)).toBitVec.getLsbD i) (s % 64) := by
      have l : ∀ i, i < 64 → (σ.2.1 (x0 + 1) (s / 64) &&& (zsl 1 (nI (s % 64)) - 1)).toBitVec.getLsbD i = ((σ.2.1 (x0 + 1) (s / 64)).toBitVec.getLsbD i && decide (i < s % 64)) := fun i hi => by
        rw [Int64.toBitVec_and, BitVec.getLsbD_and, msk _ (by omega) _ hi]
      have e64 : ∀ p : Nat → Bool, (∀ k, s % 64 ≤ k → k < 64 → p k = false) → ct p 64 = ct p (s % 64) := fun p hp => by
        have := ct_split p (s % 64) (64 - s % 64)
        rw [show s % 64 + (64 - s % 64) = 64 by omega] at this
        rw [this, ct_0 (p := fun k => p (s % 64 + k)) (n := 64 - s % 64) (fun k hk => hp _ (by omega) (by omega)), Nat.add_zero]
      rw [e64 _ (fun k h1 h2 => (l k h2).trans (by rw [decide_eq_false (show ¬ k < s % 64 by omega), Bool.and_false]))]
      exact ct_c (fun i hi => (l i (by omega)).trans (by rw [decide_eq_true hi, Bool.and_true]))
    have l1 := ct_le (bt (σ.2.1 (x0 + 1))) (64 * (s / 64))
    have l2 := ct_le (fun i => (σ.2.1 (x0 + 1) (s / 64)).toBitVec.getLsbD i) (s % 64)
    have e2 := ct_w (w := σ.2.1 (x0 + 1)) (m := s / 64) (k := s % 64) (by omega)
    rw [show 64 * (s / 64) + s % 64 = s by omega] at e2
    show (x2 + v).toInt = _
    rw [ti_add, hc, hv, e, e2]
    omega
  rw [f_X2_tallyBelow.eq_1]
  refine pt_lp (fun t : Int32 × Int32 × zS => t.2.2 = σ ∧ (0 ≤ t.2.1.toInt ∧ t.2.1.toInt ≤ ((s / 64 : Nat) : Int)) ∧ t.1.toInt = (ct (bt (σ.2.1 (x0 + 1))) (64 * t.2.1.toInt.toNat) : Int)) (fun again t hI ih => ?_) N _ ⟨rfl, (by show 0 ≤ (0 : Int32).toInt ∧ (0 : Int32).toInt ≤ _; simp only [Int32.reduceToInt]; omega), rfl⟩
  obtain ⟨x2, x3, τ⟩ := t
  obtain ⟨e, hb, hc⟩ := hI
  have e : τ = σ := e
  subst e
  have hb : 0 ≤ x3.toInt ∧ x3.toInt ≤ ((s / 64 : Nat) : Int) := hb
  have hc : x2.toInt = (ct (bt (τ.2.1 (x0 + 1))) (64 * x3.toInt.toNat) : Int) := hc
  rw [F_X2_tallyBelow_4.eq_1]
  refine pt_if (fun q => absurd q (by rw [Int32.le_iff_toInt_le]; simp only [Int32.reduceToInt]; omega)) (fun _ => pt_if (fun q => fin x2 ?_) (fun q => ?_))
  · rw [Int32.le_iff_toInt_le, (sx6 s hs).1] at q
    rw [hc, show x3.toInt.toNat = s / 64 by omega]
  · rw [Int32.le_iff_toInt_le, (sx6 s hs).1] at q
    have hw : 0 ≤ x3.toInt ∧ x3.toInt ≤ 100000 := by omega
    have hb1 : 0 ≤ (x3 + 1).toInt ∧ (x3 + 1).toInt ≤ ((s / 64 : Nat) : Int) := by rw [a1_ hw]; omega
    refine pt_gR (v := x0 + 1) r0 (pt_aJ (pt_zbq v_bitCount (fun v hv => ih (x2 + v, x3 + 1, τ) ⟨rfl, hb1, ?_⟩)))
    show (x2 + v).toInt = (ct (bt (τ.2.1 (x0 + 1))) (64 * (x3 + 1).toInt.toNat) : Int)
    have l1 := ct_le (bt (τ.2.1 (x0 + 1))) (64 * x3.toInt.toNat)
    have l2 := ct_le (fun i => (τ.2.1 (x0 + 1) x3.toInt.toNat).toBitVec.getLsbD i) 64
    have e2 := ct_w (w := τ.2.1 (x0 + 1)) (m := x3.toInt.toNat) (k := 64) (Nat.le_refl _)
    rw [show (x3 + 1).toInt.toNat = x3.toInt.toNat + 1 by rw [a1_ hw]; omega, show 64 * (x3.toInt.toNat + 1) = 64 * x3.toInt.toNat + 64 by omega, e2, ti_add, hc, hv]
    clear hb1
    omega
/-- v is the first member from s on, or -1 -/
def fsQ (p : Nat → Bool) (s : Nat) (v : Int32) : Prop := (∃ u, (s ≤ u ∧ u < 1024) ∧ p u = true ∧ (∀ i, s ≤ i → i < u → p i = false) ∧ v.toInt = (u : Int)) ∨ ((∀ u, s ≤ u → u < 1024 → p u = false) ∧ v = -1)
theorem mskh : ∀ m, m < 64 → ∀ j, j < 64 → (zsl (-1) (nI m)).toBitVec.getLsbD j = decide (m ≤ j) := by decide +kernel
theorem v_firstFrom (hR : RF σ.2.2) (h0 : (zKd x0).1 = 2) (hs : s ≤ 1024) : Px (f_X2_firstFrom N x0 (nI s) σ) σ (fsQ (bt (σ.2.1 (x0 + 1))) s) := by
  have r0 := (fam_R hR h0).1
  have es : (nI s).toInt = (s : Int) := nI_toInt (by omega)
  rw [f_X2_firstFrom.eq_1]
  refine pt_if (fun q => absurd q (by rw [Int32.lt_iff_toInt_lt, es]; simp only [Int32.reduceToInt]; omega)) (fun _ => pt_if (fun q => ?_) (fun q => pt_some ⟨rfl, Or.inr ⟨fun u h1 h2 => ?_, rfl⟩⟩))
  · rw [Int32.lt_iff_toInt_lt, es] at q
    simp only [Int32.reduceToInt] at q
    have hs : s < 1024 := by omega
    refine pt_gR (v := x0 + 1) r0 (pt_aJ ?_)
    rw [(sx6 s hs).2]
    have e6 := (sx6 s hs).1
    rw [e6, Int.toNat_natCast]
    refine pt_lp (fun t : Int64 × Int32 × zS => t.2.2 = σ ∧ (((s / 64 : Nat) : Int) ≤ t.2.1.toInt ∧ t.2.1.toInt ≤ 16) ∧ (t.2.1.toInt = ((s / 64 : Nat) : Int) → t.1 = (σ.2.1 (x0 + 1) (s / 64) &&& zsl (-1) (nI (s % 64)))) ∧ ∀ u : Nat, s ≤ u → (u : Int) < 64 * t.2.1.toInt → bt (σ.2.1 (x0 + 1)) u = false) (fun again t hI ih => ?_) N _ ⟨rfl, (by rw [e6]; omega), fun _ => rfl, fun u h1 h2 => absurd h2 (by rw [e6]; omega)⟩
    obtain ⟨x2, x4, τ⟩ := t
    obtain ⟨e, hb, hx, hu⟩ := hI
    have e : τ = σ := e
    subst e
    have hb : ((s / 64 : Nat) : Int) ≤ x4.toInt ∧ x4.toInt ≤ 16 := hb
    have hx : x4.toInt = ((s / 64 : Nat) : Int) → x2 = (τ.2.1 (x0 + 1) (s / 64) &&& zsl (-1) (nI (s % 64))) := hx
    have hu : ∀ u : Nat, s ≤ u → (u : Int) < 64 * x4.toInt → bt (τ.2.1 (x0 + 1)) u = false := hu
    rw [F_X2_firstFrom_38.eq_1]
    refine pt_if (fun z => pt_some ⟨rfl, Or.inr ⟨fun u h1 h2 => hu u h1 ?_, rfl⟩⟩) (fun z => ?_)
    · rw [Int32.le_iff_toInt_le] at z
      simp only [Int32.reduceToInt] at z
      omega
    · rw [Int32.le_iff_toInt_le] at z
      simp only [Int32.reduceToInt] at z
      obtain ⟨m, hm, rfl⟩ := znI (x := x4) (m := 16) (by omega) (by omega)
      have em : (nI m).toInt = (m : Int) := nI_toInt (by omega)
      rw [em] at hb hx hu
      have hw : 0 ≤ (nI m).toInt ∧ (nI m).toInt ≤ 100000 := by omega
      have e1 : (nI m + 1).toInt = (m : Int) + 1 := by rw [a1_ hw, em]
      -- a word whose bits are the members from s on
      have go : ∀ y : Int64, (∀ i, i < 64 → y.toBitVec.getLsbD i = (bt (τ.2.1 (x0 + 1)) (64 * m + i) && decide (s ≤ 64 * m + i))) → Px (J_X2_firstFrom_62 N again x0 (nI s) (nI m) y τ) τ (fsQ (bt (τ.2.1 (x0 + 1))) s) := fun y hy => by
        rw [J_X2_firstFrom_62.eq_1]
        refine pt_if (fun c => ?_) (fun c => ?_)
        · have y0 := cmp0.mp c
          refine ih (y, nI m + 1, τ) ⟨rfl, (by rw [e1]; omega : ((s / 64 : Nat) : Int) ≤ (nI m + 1).toInt ∧ (nI m + 1).toInt ≤ 16), fun h => ?_, fun u h1 h2 => ?_⟩
          · have h : (nI m + 1).toInt = ((s / 64 : Nat) : Int) := h
            rw [e1] at h
            omega
          · have h2 : (u : Int) < 64 * (nI m + 1).toInt := h2
            rw [e1] at h2
            by_cases d : (u : Int) < 64 * (m : Int)
            · exact hu u h1 d
            · have t := hy (u - 64 * m) (by omega)
              rw [show 64 * m + (u - 64 * m) = u by omega, decide_eq_true h1, Bool.and_true, y0] at t
              rw [← t]
              exact BitVec.getLsbD_zero
        · have y0 : ¬ y = 0 := fun d => c (cmp0.mpr d)
          obtain ⟨t, ht, hl⟩ := lb_ex y0
          refine pt_zbq v_ntz (fun v hv => pt_some ⟨rfl, Or.inl ⟨64 * m + t, ?_⟩⟩)
          have vt := hv t ht hl
          have ht1 : y.toBitVec.getLsbD t = true := hl.1
          rw [hy t ht, Bool.and_eq_true] at ht1
          have st := of_decide_eq_true ht1.2
          refine ⟨⟨st, by omega⟩, ht1.1, fun i h1 h2 => ?_, ?_⟩
          · by_cases d : (i : Int) < 64 * (m : Int)
            · exact hu i h1 d
            · have f : y.toBitVec.getLsbD (i - 64 * m) = false := hl.2 _ (by omega)
              rw [hy _ (by omega), show 64 * m + (i - 64 * m) = i by omega, decide_eq_true h1, Bool.and_true] at f
              exact f
          · have m64 : (nI m * 64).toInt = 64 * (m : Int) := by
              rw [ti_mul, em]
              simp only [Int32.reduceToInt]
              omega
            rw [ti_add, m64, vt]
            omega
      refine pt_if (fun c => go x2 (fun i hi => ?_)) (fun c => pt_gR (v := x0 + 1) r0 (pt_aJ ?_))
      · rw [Int32.le_iff_toInt_le, e6, em] at c
        have e64 : m = s / 64 := by omega
        rw [hx (by omega), Int64.toBitVec_and, BitVec.getLsbD_and, mskh _ (by omega) _ hi, bt_w hi, e64]
        congr 1
        by_cases d : s % 64 ≤ i
        · rw [decide_eq_true d, decide_eq_true (by omega)]
        · rw [decide_eq_false d, decide_eq_false (by omega)]
      · rw [Int32.le_iff_toInt_le, e6, em] at c
        rw [em, Int.toNat_natCast]
        exact go _ (fun i hi => by rw [bt_w hi, decide_eq_true (by omega), Bool.and_true])
  · rw [Int32.lt_iff_toInt_lt, es] at q
    simp only [Int32.reduceToInt] at q
    omega
/-- v is the i-th member, or -1 -/
def pkQ (p : Nat → Bool) (i : Nat) (v : Int32) : Prop := (∃ u, u < 1024 ∧ p u = true ∧ ct p u = i ∧ v.toInt = (u : Int)) ∨ (ct p 1024 ≤ i ∧ v = -1)
theorem v_pickInWord {x : Int64} {i : Nat} (hi : i < ct (fun j => x.toBitVec.getLsbD j) 64) : Px (f_X2_pickInWord N x0 x (nI i) σ) σ (fun v => ∃ t, t < 64 ∧ x.toBitVec.getLsbD t = true ∧ ct (fun j => x.toBitVec.getLsbD j) t = i ∧ v.toInt = (t : Int)) := by
  have l64 := ct_le (fun j => x.toBitVec.getLsbD j) 64
  have ei : (nI i).toInt = (i : Int) := nI_toInt (by omega)
  rw [f_X2_pickInWord.eq_1]
  refine pt_lp (fun s : Int64 × Int32 × zS => s.2.2 = σ ∧ (0 ≤ s.2.1.toInt ∧ s.2.1.toInt ≤ (i : Int)) ∧ ∀ j, j < 64 → s.1.toBitVec.getLsbD j = (x.toBitVec.getLsbD j && decide (s.2.1.toInt.toNat ≤ ct (fun j => x.toBitVec.getLsbD j) j))) (fun again s hI ih => ?_) N _ ⟨rfl, (by show 0 ≤ (0 : Int32).toInt ∧ (0 : Int32).toInt ≤ _; simp only [Int32.reduceToInt]; omega), fun j _ => by show x.toBitVec.getLsbD j = (x.toBitVec.getLsbD j && decide (0 ≤ ct (fun j => x.toBitVec.getLsbD j) j)); rw [decide_eq_true (Nat.zero_le _), Bool.and_true]⟩
  obtain ⟨x4, x6, τ⟩ := s
  obtain ⟨e, hb, hx⟩ := hI
  have e : τ = σ := e
  subst e
  have hb : 0 ≤ x6.toInt ∧ x6.toInt ≤ (i : Int) := hb
  have hx : ∀ j, j < 64 → x4.toBitVec.getLsbD j = (x.toBitVec.getLsbD j && decide (x6.toInt.toNat ≤ ct (fun j => x.toBitVec.getLsbD j) j)) := hx
  -- the least bit of what is left
  have least : ∃ t, t < 64 ∧ lb x4.toBitVec.toNat t ∧ x.toBitVec.getLsbD t = true ∧ ct (fun j => x.toBitVec.getLsbD j) t = x6.toInt.toNat := by
    have kth : ∀ n, n ≤ 64 → x6.toInt.toNat < ct (fun j => x.toBitVec.getLsbD j) n → ∃ t, t < n ∧ x.toBitVec.getLsbD t = true ∧ ct (fun j => x.toBitVec.getLsbD j) t = x6.toInt.toNat := by
      intro n
      induction n with
      | zero => intro _ h; exact absurd h (Nat.not_lt_zero _)
      | succ n ihn =>
        intro hn h
        by_cases q : x6.toInt.toNat < ct (fun j => x.toBitVec.getLsbD j) n
        · obtain ⟨t, a, b, c⟩ := ihn (by omega) q
          exact ⟨t, by omega, b, c⟩
        · have h : x6.toInt.toNat < ct (fun j => x.toBitVec.getLsbD j) n + (if x.toBitVec.getLsbD n = true then 1 else 0) := h
          by_cases b : x.toBitVec.getLsbD n = true
          · rw [if_pos b] at h
            exact ⟨n, by omega, b, by omega⟩
          · rw [if_neg b] at h; omega
    obtain ⟨t, ht, hb1, hc⟩ := kth 64 (Nat.le_refl _) (by omega)
    refine ⟨t, ht, ⟨?_, fun j hj => ?_⟩, hb1, hc⟩
    · have := hx t ht
      rw [hb1, decide_eq_true (by omega)] at this
      exact this
    · have := hx j (by omega)
      cases q : x.toBitVec.getLsbD j with
      | false => rw [q, Bool.false_and] at this; exact this
      | true =>
        have s1 : ct (fun j => x.toBitVec.getLsbD j) (j + 1) = ct (fun j => x.toBitVec.getLsbD j) j + 1 := by
          show ct (fun j => x.toBitVec.getLsbD j) j + (if x.toBitVec.getLsbD j = true then 1 else 0) = _
          rw [if_pos q]
        have s2 := ct_mono (fun j => x.toBitVec.getLsbD j) (show j + 1 ≤ t by omega)
        rw [q, decide_eq_false (by omega)] at this
        exact this
  obtain ⟨t, ht, hl, htb, htc⟩ := least
  have fin : x6.toInt = (i : Int) → Px (zb (f_J13_numberOfTrailingZeros_95d88 N x4 τ) fun v1 σ2 => some (v1, σ2)) τ (fun v => ∃ t, t < 64 ∧ x.toBitVec.getLsbD t = true ∧ ct (fun j => x.toBitVec.getLsbD j) t = i ∧ v.toInt = (t : Int)) := fun z => pt_zbq v_ntz (fun v hv => pt_some ⟨rfl, t, ht, htb, by omega, hv t ht hl⟩)
  rw [F_X2_pickInWord_6.eq_1]
  refine pt_if (fun q => fin (by rw [Int32.le_iff_toInt_le, ei] at q; omega)) (fun q => pt_if (fun q2 => absurd q2 (by rw [Int32.le_iff_toInt_le, ei] at q; rw [Int32.le_iff_toInt_le]; simp only [Int32.reduceToInt]; omega)) (fun _ => ?_))
  rw [Int32.le_iff_toInt_le, ei] at q
  have hw : 0 ≤ x6.toInt ∧ x6.toInt ≤ 100000 := by omega
  have hb2 : 0 ≤ (x6 + 1).toInt ∧ (x6 + 1).toInt ≤ (i : Int) := by rw [a1_ hw]; omega
  refine ih (_, x6 + 1, τ) ⟨rfl, hb2, fun j hj => ?_⟩
  show (x4 &&& (x4 - 1)).toBitVec.getLsbD j = (x.toBitVec.getLsbD j && decide ((x6 + 1).toInt.toNat ≤ ct (fun j => x.toBitVec.getLsbD j) j))
  rw [clr hl, hx j hj, show (x6 + 1).toInt.toNat = x6.toInt.toNat + 1 by rw [a1_ hw]; omega]
  clear hb2
  cases qj : x.toBitVec.getLsbD j with
  | false => rfl
  | true =>
    rw [Bool.true_and, Bool.true_and]
    by_cases a : j = t
    · subst a
      rw [decide_eq_true (rfl : j = j), decide_eq_false (show ¬ x6.toInt.toNat + 1 ≤ ct (fun j => x.toBitVec.getLsbD j) j by omega)]
      simp
    · rw [decide_eq_false a, Bool.not_false, Bool.and_true]
      by_cases b : j < t
      · have s1 : ct (fun j => x.toBitVec.getLsbD j) (j + 1) = ct (fun j => x.toBitVec.getLsbD j) j + 1 := by
          show ct (fun j => x.toBitVec.getLsbD j) j + (if x.toBitVec.getLsbD j = true then 1 else 0) = _
          rw [if_pos qj]
        have s2 := ct_mono (fun j => x.toBitVec.getLsbD j) (show j + 1 ≤ t by omega)
        rw [decide_eq_false (by omega), decide_eq_false (by omega)]
      · have s1 : ct (fun j => x.toBitVec.getLsbD j) (t + 1) = ct (fun j => x.toBitVec.getLsbD j) t + 1 := by
          show ct (fun j => x.toBitVec.getLsbD j) t + (if x.toBitVec.getLsbD t = true then 1 else 0) = _
          rw [if_pos htb]
        have s2 := ct_mono (fun j => x.toBitVec.getLsbD j) (show t + 1 ≤ j by omega)
        rw [decide_eq_true (by omega), decide_eq_true (by omega)]
theorem v_pick {x1 : Int32} (hR : RF σ.2.2) (h0 : (zKd x0).1 = 2) : Px (f_X2_pick N x0 x1 σ) σ (fun v => (0 ≤ x1.toInt → pkQ (bt (σ.2.1 (x0 + 1))) x1.toInt.toNat v) ∧ (x1.toInt < 0 → v = -1)) := by
  have r0 := (fam_R hR h0).1
  rw [f_X2_pick.eq_1]
  refine pt_if (fun q => ?_) (fun q => pt_some ⟨rfl, fun z => absurd (by rw [Int32.le_iff_toInt_le]; simpa using z) q, fun _ => rfl⟩)
  rw [Int32.le_iff_toInt_le] at q
  simp only [Int32.reduceToInt] at q
  refine pt_w (P := fun r : Int32 × zS => r.2 = σ ∧ ((0 ≤ x1.toInt → pkQ (bt (σ.2.1 (x0 + 1))) x1.toInt.toNat r.1) ∧ (x1.toInt < 0 → r.1 = -1))) (Q := fun r : Int32 × zS => r.2 = σ ∧ pkQ (bt (σ.2.1 (x0 + 1))) x1.toInt.toNat r.1) ?_ (fun r h => ⟨h.1, fun _ => h.2, fun z => absurd z (by omega)⟩)
  refine pt_lp (fun s : Int32 × Int32 × zS => s.2.2 = σ ∧ ((0 ≤ s.2.1.toInt ∧ s.2.1.toInt ≤ 16) ∧ 0 ≤ s.1.toInt) ∧ x1.toInt = s.1.toInt + (ct (bt (σ.2.1 (x0 + 1))) (64 * s.2.1.toInt.toNat) : Int)) (fun again s hI ih => ?_) N _ ⟨rfl, ⟨(by decide : 0 ≤ (0 : Int32).toInt ∧ (0 : Int32).toInt ≤ 16), q⟩, by show x1.toInt = x1.toInt + ((0 : Nat) : Int); omega⟩
  obtain ⟨x2, x3, τ⟩ := s
  obtain ⟨e, ⟨hb, h2⟩, hc⟩ := hI
  have e : τ = σ := e
  subst e
  have hb : 0 ≤ x3.toInt ∧ x3.toInt ≤ 16 := hb
  have h2 : 0 ≤ x2.toInt := h2
  have hc : x1.toInt = x2.toInt + (ct (bt (τ.2.1 (x0 + 1))) (64 * x3.toInt.toNat) : Int) := hc
  rw [F_X2_pick_10.eq_1]
  refine pt_if (fun z => pt_some ⟨rfl, Or.inr ⟨?_, rfl⟩⟩) (fun z => ?_)
  · rw [Int32.le_iff_toInt_le] at z
    simp only [Int32.reduceToInt] at z
    rw [show x3.toInt.toNat = 16 by omega] at hc
    have hc : x1.toInt = x2.toInt + (ct (bt (τ.2.1 (x0 + 1))) 1024 : Int) := hc
    omega
  · rw [Int32.le_iff_toInt_le] at z
    simp only [Int32.reduceToInt] at z
    have hw : 0 ≤ x3.toInt ∧ x3.toInt ≤ 100000 := by omega
    have hb1 : 0 ≤ (x3 + 1).toInt ∧ (x3 + 1).toInt ≤ 16 := by rw [a1_ hw]; omega
    have e2 := ct_w (w := τ.2.1 (x0 + 1)) (m := x3.toInt.toNat) (k := 64) (Nat.le_refl _)
    have l2 := ct_le (fun i => (τ.2.1 (x0 + 1) x3.toInt.toNat).toBitVec.getLsbD i) 64
    refine pt_gR (v := x0 + 1) r0 (pt_aJ (pt_zbq v_bitCount (fun v hv => pt_if (fun c => ?_) (fun c => ?_))))
    · rw [Int32.le_iff_toInt_le] at c
      have h1 := ti_hi x2
      have sb : (x2 - v).toInt = x2.toInt - v.toInt := by rw [ti_sub, hv]; omega
      refine ih (x2 - v, x3 + 1, τ) ⟨rfl, ⟨hb1, by show 0 ≤ (x2 - v).toInt; omega⟩, ?_⟩
      show x1.toInt = (x2 - v).toInt + (ct (bt (τ.2.1 (x0 + 1))) (64 * (x3 + 1).toInt.toNat) : Int)
      rw [show (x3 + 1).toInt.toNat = x3.toInt.toNat + 1 by rw [a1_ hw]; omega, show 64 * (x3.toInt.toNat + 1) = 64 * x3.toInt.toNat + 64 by omega, e2, sb, hv, hc]
      clear hb1
      omega
    · rw [Int32.le_iff_toInt_le, hv] at c
      obtain ⟨m, hm, rfl⟩ := znI (x := x2) (m := 64) h2 (by omega)
      have em : (nI m).toInt = (m : Int) := nI_toInt (by omega)
      rw [em] at c hc
      refine pt_gR (v := x0 + 1) r0 (pt_aJ (pt_gC (pt_zbq (v_pickInWord (by omega)) (fun w hw2 => pt_some ⟨rfl, Or.inl ?_⟩))))
      obtain ⟨t, ht, hb2, hct, hwt⟩ := hw2
      refine ⟨64 * x3.toInt.toNat + t, by omega, by rw [bt_w ht]; exact hb2, ?_, ?_⟩
      · rw [ct_w (by omega), hct]; omega
      · have m64 : (x3 * 64).toInt = 64 * x3.toInt := by
          rw [ti_mul]
          simp only [Int32.reduceToInt]
          clear hb1
          omega
        show (x3 * 64 + w).toInt = _
        rw [ti_add, m64, hwt]
        clear hb1 m64
        omega
end PICK

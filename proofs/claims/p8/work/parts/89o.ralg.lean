/-! ===== the reference's families: rows of booleans ===== -/
/-- member s of the family that begins at a -/
def rb (r : Nat → Int32) (a s : Nat) : Bool := decide (¬ r (a + s) = 0)
theorem rb_t {r : Nat → Int32} {a s : Nat} : rb r a s = true ↔ ¬ r (a + s) = 0 := decide_eq_true_iff
theorem rb_f {r : Nat → Int32} {a s : Nat} : rb r a s = false ↔ r (a + s) = 0 := by
  rw [rb, decide_eq_false_iff_not, Classical.not_not]
theorem nI_and (a b : Nat) : nI a &&& nI b = nI (a &&& b) := by
  apply Int32.toBitVec_inj.mp
  rw [Int32.toBitVec_and]
  show BitVec.ofNat 32 a &&& BitVec.ofNat 32 b = BitVec.ofNat 32 (a &&& b)
  apply BitVec.eq_of_getLsbD_eq
  intro i hi
  rw [BitVec.getLsbD_and, BitVec.getLsbD_ofNat, BitVec.getLsbD_ofNat, BitVec.getLsbD_ofNat, Nat.testBit_and, decide_eq_true hi]
  simp
theorem nI_or (a b : Nat) : nI a ||| nI b = nI (a ||| b) := by
  apply Int32.toBitVec_inj.mp
  rw [Int32.toBitVec_or]
  show BitVec.ofNat 32 a ||| BitVec.ofNat 32 b = BitVec.ofNat 32 (a ||| b)
  apply BitVec.eq_of_getLsbD_eq
  intro i hi
  rw [BitVec.getLsbD_or, BitVec.getLsbD_ofNat, BitVec.getLsbD_ofNat, BitVec.getLsbD_ofNat, Nat.testBit_or, decide_eq_true hi]
  simp
theorem nI_e0 {a : Nat} (h : a < 1024) : nI a = 0 ↔ a = 0 := by
  rw [← Int32.toInt_inj, nI_toInt (by omega)]
  simp only [Int32.reduceToInt]
  omega
theorem nI_inj {a b : Nat} (ha : a < 100000) (hb : b < 100000) : nI a = nI b ↔ a = b := by
  rw [← Int32.toInt_inj, nI_toInt (by omega), nI_toInt (by omega)]
  omega
theorem and_1024 {a b : Nat} (h : a < 1024) : a &&& b < 1024 := Nat.lt_of_le_of_lt Nat.and_le_left h
theorem or_1024 {a b : Nat} (h : a < 1024) (h2 : b < 1024) : a ||| b < 1024 := Nat.or_lt_two_pow (n := 10) h h2
/-- what a has that b has not -/
theorem nI_less {a b : Nat} (ha : a < 1024) (hb : b < 1024) : (nI a &&& (nI b ^^^ (-1))) = 0 ↔ sb a b := by
  have e : ∀ i, i < 32 → (nI a &&& (nI b ^^^ (-1))).toBitVec.getLsbD i = (a.testBit i && !b.testBit i) := fun i hi => by
    rw [Int32.toBitVec_and, BitVec.getLsbD_and, Int32.toBitVec_xor, BitVec.getLsbD_xor]
    have m : (-1 : Int32).toBitVec = BitVec.allOnes 32 := rfl
    have ea : (nI a).toBitVec = BitVec.ofNat 32 a := rfl
    have eb : (nI b).toBitVec = BitVec.ofNat 32 b := rfl
    rw [m, ea, eb, BitVec.getLsbD_ofNat, BitVec.getLsbD_ofNat, BitVec.getLsbD_allOnes, decide_eq_true hi]
    simp
  constructor
  · intro h i q
    by_cases l : i < 32
    · have := e i l
      rw [h] at this
      have z : (0 : Int32).toBitVec.getLsbD i = false := BitVec.getLsbD_zero
      rw [z, q, Bool.true_and] at this
      cases hb' : b.testBit i with
      | true => rfl
      | false => rw [hb'] at this; cases this
    · rw [tb_lt (n := 10) ha (by omega)] at q; cases q
  · intro h
    apply Int32.toBitVec_inj.mp
    apply BitVec.eq_of_getLsbD_eq
    intro i hi
    rw [e i hi]
    have z : (0 : Int32).toBitVec.getLsbD i = false := BitVec.getLsbD_zero
    rw [z]
    cases q : a.testBit i with
    | false => rfl
    | true => rw [h i q]; rfl
section RALG
variable {N c a n s : Nat} {σ : zS}
theorem ix1 {a t : Nat} (ha : a ≤ 100000) (ht : t ≤ 2000) : (nI a + nI t).toInt.toNat = a + t := by
  rw [ti_add, nI_toInt (by omega), nI_toInt (by omega)]
  omega
theorem nlt {n m : Nat} (hn : n ≤ 2000) (hm : m ≤ 2000) : nI n ≤ nI m ↔ n ≤ m := by
  rw [Int32.le_iff_toInt_le, nI_toInt (by omega), nI_toInt (by omega)]
  omega
/-- s has something of each of it -/
theorem vr_isTouching (ha : a ≤ 100000) (hs : s < 1024) (hn : σ.1 218 20 = nI n) (h10 : n ≤ 1024) : Px (f_X12_isTouching N 218 c (nI a) (nI s) σ) σ (fun v => (v = 0 ∨ v = 1) ∧ (v = 1 ↔ ∀ t, t < n → rb (σ.1 c) a t = true → ¬ s &&& t = 0)) := by
  rw [f_X12_isTouching.eq_1]
  refine pt_lp (fun x : Int32 × zS => x.2 = σ ∧ ∃ m, (x.1 = nI m ∧ m ≤ n) ∧ ∀ t, t < m → rb (σ.1 c) a t = true → ¬ s &&& t = 0) (fun again x hI ih => ?_) N _ ⟨rfl, 0, ⟨rfl, Nat.zero_le _⟩, fun t ht => absurd ht (by omega)⟩
  obtain ⟨x4, τ⟩ := x
  obtain ⟨e, m, ⟨e4, hm⟩, hu⟩ := hI
  have e : τ = σ := e
  subst e
  have e4 : x4 = nI m := e4
  subst e4
  rw [F_X12_isTouching_3.eq_1]
  refine pt_gI ?_
  rw [hn]
  refine pt_if (fun q => pt_rZ ⟨rfl, Or.inr rfl, fun _ t ht => hu t ?_, fun _ => rfl⟩) (fun q => ?_)
  · rw [nlt (by omega) (by omega)] at q; omega
  · rw [nlt (by omega) (by omega)] at q
    refine pt_aI ?_
    rw [ix1 ha (by omega), nI_s1 (by omega)]
    refine pt_if (fun z => ih (nI (m + 1), τ) ⟨rfl, m + 1, ⟨rfl, by omega⟩, fun t ht hr => ?_⟩) (fun z => ?_)
    · by_cases e : t = m
      · rw [e] at hr; exact absurd z (rb_t.mp hr)
      · exact hu t (by omega) hr
    · rw [nI_and]
      have ye := nI_e0 (and_1024 (b := m) hs)
      refine pt_if (fun y => pt_rZ ⟨rfl, Or.inl rfl, fun w => absurd (show (0 : Int32) = 1 from w) (by decide), fun w => absurd (ye.mp y) (w m (by omega) (rb_t.mpr z))⟩) (fun y => ih (nI (m + 1), τ) ⟨rfl, m + 1, ⟨rfl, by omega⟩, fun t ht hr => ?_⟩)
      by_cases e : t = m
      · rw [e]; exact fun w => y (ye.mpr w)
      · exact hu t (by omega) hr
/-- another one lies in s (or s in it) -/
theorem vr_isNested {w : Int32} (ha : a ≤ 100000) (hs : s < 1024) (hn : σ.1 218 20 = nI n) (h10 : n ≤ 1024) : Px (f_X12_isNested N 218 c (nI a) (nI s) w σ) σ (fun v => (v = 0 ∨ v = 1) ∧ (v = 1 ↔ ∃ t, t < n ∧ t ≠ s ∧ rb (σ.1 c) a t = true ∧ (if w = 0 then sb s t else sb t s))) := by
  rw [f_X12_isNested.eq_1]
  refine pt_lp (fun x : Int32 × zS => x.2 = σ ∧ ∃ m, (x.1 = nI m ∧ m ≤ n) ∧ ∀ t, t < m → ¬ (t ≠ s ∧ rb (σ.1 c) a t = true ∧ (if w = 0 then sb s t else sb t s))) (fun again x hI ih => ?_) N _ ⟨rfl, 0, ⟨rfl, Nat.zero_le _⟩, fun t ht => absurd ht (by omega)⟩
  obtain ⟨x5, τ⟩ := x
  obtain ⟨e, m, ⟨e4, hm⟩, hu⟩ := hI
  have e : τ = σ := e
  subst e
  have e4 : x5 = nI m := e4
  subst e4
  have next : ¬ (m ≠ s ∧ rb (τ.1 c) a m = true ∧ (if w = 0 then sb s m else sb m s)) → m < n → Px (again (nI m + 1, τ)) τ (fun v => (v = 0 ∨ v = 1) ∧ (v = 1 ↔ ∃ t, t < n ∧ t ≠ s ∧ rb (τ.1 c) a t = true ∧ (if w = 0 then sb s t else sb t s))) := fun hx hlt => by
    rw [nI_s1 (by omega)]
    refine ih (nI (m + 1), τ) ⟨rfl, m + 1, ⟨rfl, by omega⟩, fun t ht => ?_⟩
    by_cases e : t = m
    · rw [e]; exact hx
    · exact hu t (by omega)
  rw [F_X12_isNested_3.eq_1]
  refine pt_gI ?_
  rw [hn]
  refine pt_if (fun q => pt_rZ ⟨rfl, Or.inl rfl, fun z => absurd (show (0 : Int32) = 1 from z) (by decide), fun ⟨t, ht, z⟩ => absurd z (hu t ?_)⟩) (fun q => ?_)
  · rw [nlt (by omega) (by omega)] at q; omega
  · rw [nlt (by omega) (by omega)] at q
    refine pt_if (fun z => next (fun y => y.1 ((nI_inj (by omega) (by omega)).mp z)) (by omega)) (fun z => ?_)
    have ne : m ≠ s := fun y => z (by rw [y])
    refine pt_aI ?_
    rw [ix1 ha (by omega)]
    refine pt_if (fun y => next (fun r => absurd y (rb_t.mp r.2.1)) (by omega)) (fun y => ?_)
    have hr : rb (τ.1 c) a m = true := rb_t.mpr y
    refine pt_if (fun w0 => pt_if (fun l => pt_rZ ⟨rfl, Or.inr rfl, fun _ => ⟨m, by omega, ne, hr, ?_⟩, fun _ => rfl⟩) (fun l => next (fun r => ?_) (by omega))) (fun w0 => pt_if (fun l => pt_rZ ⟨rfl, Or.inr rfl, fun _ => ⟨m, by omega, ne, hr, ?_⟩, fun _ => rfl⟩) (fun l => next (fun r => ?_) (by omega)))
    · rw [if_pos w0]; exact (nI_less hs (by omega)).mp l
    · have := r.2.2
      rw [if_pos w0] at this
      exact l ((nI_less hs (by omega)).mpr this)
    · rw [if_neg w0]; exact (nI_less (by omega) hs).mp l
    · have := r.2.2
      rw [if_neg w0] at this
      exact l ((nI_less (by omega) hs).mpr this)
/-- s is of the quotient -/
theorem vr_isOver {c2 b : Nat} (ha : a ≤ 100000) (hb : b ≤ 100000) (hs : s < 1024) (hn : σ.1 218 20 = nI n) (h10 : n ≤ 1024) : Px (f_X12_isOver N 218 c (nI a) c2 (nI b) (nI s) σ) σ (fun v => (v = 0 ∨ v = 1) ∧ (v = 1 ↔ (∃ t, t < n ∧ rb (σ.1 c2) b t = true) ∧ ∀ t, t < n → rb (σ.1 c2) b t = true → s &&& t = 0 ∧ rb (σ.1 c) a (s ||| t) = true)) := by
  rw [f_X12_isOver.eq_1]
  refine pt_lp (fun x : Int32 × Int32 × zS => x.2.2 = σ ∧ ∃ m, (x.2.1 = nI m ∧ m ≤ n) ∧ ((x.1 = 0 ∨ x.1 = 1) ∧ (x.1 = 1 ↔ ∃ t, t < m ∧ rb (σ.1 c2) b t = true)) ∧ ∀ t, t < m → rb (σ.1 c2) b t = true → s &&& t = 0 ∧ rb (σ.1 c) a (s ||| t) = true) (fun again x hI ih => ?_) N _ ⟨rfl, 0, ⟨rfl, Nat.zero_le _⟩, ⟨Or.inl rfl, fun z => absurd (show (0 : Int32) = 1 from z) (by decide), fun ⟨t, ht, _⟩ => absurd ht (by omega)⟩, fun t ht => absurd ht (by omega)⟩
  obtain ⟨x6, x7, τ⟩ := x
  obtain ⟨e, m, ⟨e4, hm⟩, ⟨h6, h6i⟩, hu⟩ := hI
  have e : τ = σ := e
  subst e
  have e4 : x7 = nI m := e4
  subst e4
  have h6 : x6 = 0 ∨ x6 = 1 := h6
  have h6i : x6 = 1 ↔ ∃ t, t < m ∧ rb (τ.1 c2) b t = true := h6i
  rw [F_X12_isOver_6.eq_1]
  refine pt_gI ?_
  rw [hn]
  refine pt_if (fun q => pt_rZ ⟨rfl, h6, ?_⟩) (fun q => ?_)
  · rw [nlt (by omega) (by omega)] at q
    have e : n = m := by omega
    subst e
    exact ⟨fun z => ⟨h6i.mp z, hu⟩, fun z => h6i.mpr z.1⟩
  · rw [nlt (by omega) (by omega)] at q
    refine pt_aI ?_
    rw [ix1 hb (by omega), nI_s1 (by omega)]
    refine pt_if (fun z => ih (x6, nI (m + 1), τ) ⟨rfl, m + 1, ⟨rfl, by omega⟩, ⟨h6, h6i.trans ⟨fun ⟨t, ht, y⟩ => ⟨t, by omega, y⟩, fun ⟨t, ht, y⟩ => ⟨t, ?_, y⟩⟩⟩, fun t ht y => ?_⟩) (fun z => ?_)
    · have : t ≠ m := fun e => absurd z (rb_t.mp (by rw [e] at y; exact y))
      omega
    · have : t ≠ m := fun e => absurd z (rb_t.mp (by rw [e] at y; exact y))
      exact hu t (by omega) y
    · have hr : rb (τ.1 c2) b m = true := rb_t.mpr z
      rw [nI_and]
      have ye := nI_e0 (and_1024 (b := m) hs)
      refine pt_if (fun y => ?_) (fun y => pt_rZ ⟨rfl, Or.inl rfl, fun w => absurd (show (0 : Int32) = 1 from w) (by decide), fun w => absurd (ye.mpr (w.2 m (by omega) hr).1) y⟩)
      have y := ye.mp y
      refine pt_aI ?_
      have lor := or_1024 hs (show m < 1024 by omega)
      rw [nI_or, ix1 ha (by omega)]
      refine pt_if (fun w => pt_rZ ⟨rfl, Or.inl rfl, fun v => absurd (show (0 : Int32) = 1 from v) (by decide), fun v => absurd w (rb_t.mp (v.2 m (by omega) hr).2)⟩) (fun w => ih (1, nI (m + 1), τ) ⟨rfl, m + 1, ⟨rfl, by omega⟩, ⟨Or.inr rfl, fun _ => ⟨m, by omega, hr⟩, fun _ => rfl⟩, fun t ht v => ?_⟩)
      by_cases e : t = m
      · rw [e]; exact ⟨y, rb_t.mpr w⟩
      · exact hu t (by omega) v
end RALG

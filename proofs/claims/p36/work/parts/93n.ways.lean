/-! ===== blocks by sets of names (best): draft ===== -/
section ENU
variable {m m' : Nat} {A B : Nat → Bool} {R : Nat → Nat → Prop}
theorem en_le (hex : ∀ i, i < m → A i = true → ∃ j, j < m' ∧ B j = true ∧ R i j) (hin : ∀ i i' j, i < m → i' < m → A i = true → A i' = true → R i j → R i' j → i = i') : ct A m ≤ ct B m' := by
  classical
  have ch : ∀ i, ∃ j, i < m → A i = true → j < m' ∧ B j = true ∧ R i j := fun i => by
    by_cases q : i < m ∧ A i = true
    · obtain ⟨j, h⟩ := hex i q.1 q.2
      exact ⟨j, fun _ _ => h⟩
    · exact ⟨0, fun a b => absurd ⟨a, b⟩ q⟩
  obtain ⟨c, hc⟩ := Classical.axiomOfChoice ch
  refine pg_ct (c := fun i => ct B (c i)) (fun e he ha => ?_) (fun e e' he he' ha ha' h => ?_)
  · have := hc e he ha
    exact ct_lt_ this.1 this.2.1
  · have h1 := hc e he ha
    have h2 := hc e' he' ha'
    have h : ct B (c e) = ct B (c e') := h
    have := ct_inj h1.2.1 h2.2.1 h
    exact hin e e' (c e) he he' ha ha' h1.2.2 (by rw [this]; exact h2.2.2)
end ENU
/-- the bits of a sum of a high and a low part -/
theorem tb_hl {e t j : Nat} (ht : t < 2 ^ j) (i : Nat) : (e * 2 ^ j + t).testBit i = if i < j then t.testBit i else e.testBit (i - j) := by
  have p : ∀ q, 0 < 2 ^ q := fun q => Nat.pow_pos (by decide)
  by_cases q : i < j
  · rw [if_pos q, Nat.testBit_eq_decide_div_mod_eq, Nat.testBit_eq_decide_div_mod_eq]
    have e1 : e * 2 ^ j = (e * 2 ^ (j - i - 1) * 2) * 2 ^ i := by
      have : 2 ^ j = 2 ^ (j - i - 1) * 2 * 2 ^ i := by
        rw [← Nat.pow_succ, ← Nat.pow_add]
        congr 1
        omega
      rw [this, Nat.mul_assoc, Nat.mul_assoc, Nat.mul_assoc]
    rw [e1, Nat.add_comm, Nat.add_mul_div_right _ _ (p i)]
    congr 1
    have : (t / 2 ^ i + e * 2 ^ (j - i - 1) * 2) % 2 = t / 2 ^ i % 2 := Nat.add_mul_mod_self_right _ _ _
    rw [this]
  · rw [if_neg q, Nat.testBit_eq_decide_div_mod_eq, Nat.testBit_eq_decide_div_mod_eq]
    have e2 : 2 ^ i = 2 ^ j * 2 ^ (i - j) := by
      rw [← Nat.pow_add]
      congr 1
      omega
    rw [e2, ← Nat.div_div_eq_div_mul, Nat.add_comm, Nat.add_mul_div_right _ _ (p j), Nat.div_eq_of_lt ht, Nat.zero_add]
/-- the names of the first k places -/
def mkN (o : Nat → Nat) : Nat → Nat
  | 0 => 0
  | k + 1 => mkN o k ||| 2 ^ o k
/-- x lies in S -/
def sbm (S x : Nat) : Prop := x &&& S = x
def off (n S y : Nat) : Prop := y < 2 ^ n ∧ y &&& S = 0
/-- the same of both with all that lies off S -/
def PEq (F : Nat → Bool) (n S x x' : Nat) : Prop := ∀ y, off n S y → F (x' ||| y) = F (x ||| y)
def hvP (F : Nat → Bool) (n S v x : Nat) : Prop := ∃ y, off n S y ∧ y.testBit v = true ∧ F (x ||| y) = true
def FX (F : Nat → Bool) (n S x : Nat) : Prop := sbm S x ∧ ∀ x', x' < x → sbm S x' → ¬ PEq F n S x x'
/-- how many unlike parts have name v -/
noncomputable def wN (F : Nat → Bool) (n S v : Nat) : Nat := ct (bl (fun x => FX F n S x ∧ hvP F n S v x)) (2 ^ n)
section WNS
variable {n k : Nat} {o : Nat → Nat} {F : Nat → Bool}
theorem mk_tb {v : Nat} : ∀ {k : Nat}, (mkN o k).testBit v = true ↔ ∃ j, j < k ∧ o j = v
  | 0 => by
    show (0 : Nat).testBit v = true ↔ _
    rw [Nat.zero_testBit]
    exact ⟨fun z => (by cases z), fun ⟨j, hj, _⟩ => absurd hj (Nat.not_lt_zero _)⟩
  | k + 1 => by
    have ih := mk_tb (v := v) (k := k)
    show (mkN o k ||| 2 ^ o k).testBit v = true ↔ _
    rw [or_2, ih]
    constructor
    · rintro (⟨j, h1, h2⟩ | h)
      · exact ⟨j, by omega, h2⟩
      · exact ⟨k, by omega, h.symm⟩
    · rintro ⟨j, h1, h2⟩
      by_cases q : j = k
      · subst q; exact Or.inr h2.symm
      · exact Or.inl ⟨j, by omega, h2⟩
theorem sbm_tb {S x : Nat} : sbm S x ↔ ∀ v, x.testBit v = true → S.testBit v = true := by
  constructor
  · intro h v hv
    have := congrArg (fun z => z.testBit v) h
    have this : (x &&& S).testBit v = x.testBit v := this
    rw [Nat.testBit_and, hv] at this
    exact and_2 this
  · intro h
    apply Nat.eq_of_testBit_eq
    intro v
    rw [Nat.testBit_and]
    cases q : x.testBit v with
    | false => rfl
    | true => rw [h v q]; rfl
theorem off_tb {S y : Nat} : off n S y ↔ y < 2 ^ n ∧ ∀ v, y.testBit v = true → S.testBit v = false := by
  constructor
  · rintro ⟨a, h⟩
    refine ⟨a, fun v hv => ?_⟩
    have := congrArg (fun z => z.testBit v) h
    have this : (y &&& S).testBit v = (0 : Nat).testBit v := this
    rw [Nat.testBit_and, hv, Nat.zero_testBit, Bool.true_and] at this
    exact this
  · rintro ⟨a, h⟩
    refine ⟨a, ?_⟩
    apply Nat.eq_of_testBit_eq
    intro v
    rw [Nat.testBit_and, Nat.zero_testBit]
    cases q : y.testBit v with
    | false => rfl
    | true => rw [h v q]; rfl
/-- the spot's high part is a set of the first names, the low part one of the others -/
theorem sa_hl {e t : Nat} (hk : k ≤ n) (he : e < 2 ^ k) (ht : t < 2 ^ (n - k)) : saN o n (e * 2 ^ (n - k) + t) n = saN o n (e * 2 ^ (n - k)) n ||| saN o n t n := by
  apply Nat.eq_of_testBit_eq
  intro v
  rw [Nat.testBit_or, Bool.eq_iff_iff, Bool.or_eq_true, sa_tb, sa_tb, sa_tb]
  have h0 : ∀ i, (e * 2 ^ (n - k)).testBit i = if i < n - k then false else e.testBit (i - (n - k)) := fun i => by
    have := tb_hl (e := e) (t := 0) (j := n - k) (Nat.pow_pos (by decide)) i
    rw [Nat.add_zero, Nat.zero_testBit] at this
    exact this
  constructor
  · rintro ⟨i, hi, h1, h2⟩
    rw [tb_hl ht] at h1
    by_cases q : i < n - k
    · rw [if_pos q] at h1; exact Or.inr ⟨i, hi, h1, h2⟩
    · rw [if_neg q] at h1
      exact Or.inl ⟨i, hi, by rw [h0, if_neg q]; exact h1, h2⟩
  · rintro (⟨i, hi, h1, h2⟩ | ⟨i, hi, h1, h2⟩)
    · rw [h0] at h1
      by_cases q : i < n - k
      · rw [if_pos q] at h1; cases h1
      · rw [if_neg q] at h1
        exact ⟨i, hi, by rw [tb_hl ht, if_neg q]; exact h1, h2⟩
    · by_cases q : i < n - k
      · exact ⟨i, hi, by rw [tb_hl ht, if_pos q]; exact h1, h2⟩
      · rw [tb_lt ht (by omega)] at h1; cases h1
theorem sa_in {e : Nat} (hk : k ≤ n) : sbm (mkN o k) (saN o n (e * 2 ^ (n - k)) n) := sbm_tb.mpr (fun v hv => by
  obtain ⟨i, hi, h1, h2⟩ := sa_tb.mp hv
  have := tb_hl (e := e) (t := 0) (j := n - k) (Nat.pow_pos (by decide)) i
  rw [Nat.add_zero, Nat.zero_testBit] at this
  rw [this] at h1
  by_cases q : i < n - k
  · rw [if_pos q] at h1; cases h1
  · exact mk_tb.mpr ⟨n - 1 - i, by omega, h2⟩)
theorem sa_off {t : Nat} (hP : PmO n o) (hk : k ≤ n) (ht : t < 2 ^ (n - k)) : off n (mkN o k) (saN o n t n) := off_tb.mpr ⟨sa_lt hP, fun v hv => by
  obtain ⟨i, hi, h1, h2⟩ := sa_tb.mp hv
  have q : i < n - k := by
    by_cases q : i < n - k
    · exact q
    · rw [tb_lt ht (by omega)] at h1; cases h1
  cases z : (mkN o k).testBit v with
  | false => rfl
  | true =>
    obtain ⟨j, hj, e⟩ := mk_tb.mp z
    have := hP.2.1 j (n - 1 - i) (by omega) (by omega) (e.trans h2.symm)
    omega⟩
theorem sbm_sa {x : Nat} (hP : PmO n o) (hk : k ≤ n) (hx : sbm (mkN o k) x) : ∃ e, e < 2 ^ k ∧ saN o n (e * 2 ^ (n - k)) n = x := by
  have xl : x < 2 ^ n := lt_tb (fun v hv => by
    cases z : x.testBit v with
    | false => rfl
    | true =>
      obtain ⟨j, hj, e⟩ := mk_tb.mp (sbm_tb.mp hx v z)
      have := hP.1 j (by omega)
      omega)
  have sl := sp_lt (a := o) (s := x) n
  have pp : 2 ^ n = 2 ^ k * 2 ^ (n - k) := by rw [← Nat.pow_add, show k + (n - k) = n by omega]
  have p0 : 0 < 2 ^ (n - k) := Nat.pow_pos (by decide)
  refine ⟨spN o x n / 2 ^ (n - k), Nat.div_lt_of_lt_mul (by rw [Nat.mul_comm, ← pp]; exact sl), ?_⟩
  have low : spN o x n % 2 ^ (n - k) = 0 := by
    apply Nat.eq_of_testBit_eq
    intro i
    rw [Nat.testBit_mod_two_pow, Nat.zero_testBit]
    by_cases q : i < n - k
    · rw [decide_eq_true q, Bool.true_and, sp_tb n i (by omega)]
      cases z : x.testBit (o (n - 1 - i)) with
      | false => rfl
      | true =>
        obtain ⟨j, hj, e⟩ := mk_tb.mp (sbm_tb.mp hx _ z)
        have := hP.2.1 j (n - 1 - i) (by omega) (by omega) e
        omega
    · rw [decide_eq_false q]; rfl
  have d := Nat.div_add_mod (spN o x n) (2 ^ (n - k))
  rw [low, Nat.add_zero, Nat.mul_comm] at d
  rw [d]
  exact sa_sp hP xl
theorem off_sa {y : Nat} (hP : PmO n o) (hk : k ≤ n) (hy : off n (mkN o k) y) : ∃ t, t < 2 ^ (n - k) ∧ saN o n t n = y := by
  obtain ⟨yl, hy⟩ := off_tb.mp hy
  refine ⟨spN o y n, lt_tb (fun i hi => ?_), sa_sp hP yl⟩
  by_cases q : i < n
  · rw [sp_tb n i q]
    cases z : y.testBit (o (n - 1 - i)) with
    | false => rfl
    | true =>
      have a := hy _ z
      have b : (mkN o k).testBit (o (n - 1 - i)) = true := mk_tb.mpr ⟨n - 1 - i, by omega, rfl⟩
      rw [b] at a; cases a
  · exact tb_lt (sp_lt n) (by omega)
end WNS

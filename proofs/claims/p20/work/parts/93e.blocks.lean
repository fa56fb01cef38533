/-! ===== counting: a permutation, pigeons, blocks ===== -/
theorem and_1 {a b : Bool} (h : (a && b) = true) : a = true := by
  rw [Bool.and_eq_true] at h; exact h.1
theorem and_2 {a b : Bool} (h : (a && b) = true) : b = true := by
  rw [Bool.and_eq_true] at h; exact h.2
section PERM
variable {m : Nat} {f c : Nat → Nat}
theorem sj_ct : ∀ {n : Nat} {A : Nat → Bool}, (∀ v, v < n → ∃ k, k < m ∧ A k = true ∧ f k = v) → n ≤ ct A m
  | 0, _, _ => Nat.zero_le _
  | n + 1, A, h => by
    obtain ⟨k, hk, hA, hf⟩ := h n (Nat.lt_succ_self n)
    have ih := sj_ct (n := n) (A := fun x => A x && !decide (x = k)) (fun v hv => by
      obtain ⟨j, hj, jA, jf⟩ := h v (by omega)
      refine ⟨j, hj, ?_, jf⟩
      have ne : j ≠ k := fun e => by
        rw [e] at jf
        omega
      show (A j && !decide (j = k)) = true
      rw [jA, decide_eq_false ne]; rfl)
    have := ct_rm hk hA
    omega
theorem pg_ct : ∀ {M : Nat} {A : Nat → Bool}, (∀ e, e < m → A e = true → c e < M) → (∀ e e', e < m → e' < m → A e = true → A e' = true → c e = c e' → e = e') → ct A m ≤ M
  | 0, A, h, _ => by
    rw [ct_0 (fun k hk => by
      cases q : A k with
      | false => rfl
      | true => exact absurd (h k hk q) (Nat.not_lt_zero _))]
    exact Nat.le_refl _
  | M + 1, A, h, hi => by
    by_cases q : ∃ k, k < m ∧ A k = true ∧ c k = M
    · obtain ⟨k, hk, hA, hc⟩ := q
      have ih := pg_ct (M := M) (A := fun x => A x && !decide (x = k)) (fun e he ha => by
        have ha : (A e && !decide (e = k)) = true := ha
        have ne : e ≠ k := fun z => by
          have h2 := and_2 ha
          rw [decide_eq_true z] at h2
          exact absurd h2 (by decide)
        have h1 := h e he (and_1 ha)
        have h3 : c e ≠ M := fun z => ne (hi e k he hk (and_1 ha) hA (z.trans hc.symm))
        omega) (fun e e' he he' ha ha' => hi e e' he he' (and_1 (show (A e && !decide (e = k)) = true from ha)) (and_1 (show (A e' && !decide (e' = k)) = true from ha')))
      have := ct_rm hk hA
      omega
    · have := pg_ct (M := M) (A := A) (fun e he ha => by
        have h1 := h e he ha
        have h3 : c e ≠ M := fun z => q ⟨e, he, ha, z⟩
        omega) hi
      omega
end PERM
/-- a row's places are a permutation of the names -/
def PmO (n : Nat) (a : Nat → Nat) : Prop := (∀ k, k < n → a k < n) ∧ (∀ i j, i < n → j < n → a i = a j → i = j) ∧ ∀ v, v < n → ∃ k, k < n ∧ a k = v
theorem pm_of {n : Nat} {a : Nat → Nat} (h : ∀ v, v < n → ∃ k, k < n ∧ a k = v) : PmO n a := by
  have key : ∀ j, j < n → (∀ v, v < n → ∃ k, k < n ∧ (fun k => !decide (k = j)) k = true ∧ a k = v) → False := fun j hj hv => by
    have h1 := sj_ct hv
    have h2 := ct_rm (p := fun _ => true) hj rfl
    have h3 := ct_le (fun _ => true) n
    have h4 : ct (fun x => true && !decide (x = j)) n = ct (fun k => !decide (k = j)) n := ct_c (fun _ _ => Bool.true_and _)
    omega
  refine ⟨fun j hj => ?_, fun i j hi hj e => ?_, h⟩
  · by_cases q : a j < n
    · exact q
    · exact (key j hj (fun v hv => by
        obtain ⟨k, hk, e⟩ := h v hv
        refine ⟨k, hk, ?_, e⟩
        have ne : k ≠ j := fun z => by
          rw [z] at e
          omega
        show (!decide (k = j)) = true
        rw [decide_eq_false ne]; rfl)).elim
  · by_cases q : i = j
    · exact q
    · exact (key j hj (fun v hv => by
        obtain ⟨k, hk, e2⟩ := h v hv
        by_cases z : k = j
        · refine ⟨i, hi, ?_, by rw [e, ← z]; exact e2⟩
          show (!decide (i = j)) = true
          rw [decide_eq_false q]; rfl
        · refine ⟨k, hk, ?_, e2⟩
          show (!decide (k = j)) = true
          rw [decide_eq_false z]; rfl)).elim
def oN (g : Nat → Int32) (k : Nat) : Nat := (g (33 + k)).toInt.toNat
theorem pm_MW {g : Nat → Int32} {n : Nat} (hM : MW g 0) (en : (g 0).toInt = (n : Int)) : PmO n (oN g) ∧ ∀ k, k < n → g (33 + k) = nI (oN g k) := by
  have h4 := hM.2.2.2
  have hn := hM.1.2
  have hn : (g 0).toInt ≤ 10 := hn
  have s : ∀ v, v < n → ∃ k, k < n ∧ g (33 + k) = nI v := fun v hv => by
    obtain ⟨k, hk, e⟩ := h4 v (by show (v : Int) < (g 0).toInt; omega)
    have hk : (k : Int) < (g 0).toInt := hk
    exact ⟨k, by omega, e⟩
  have ov : ∀ {k v : Nat}, v < n → g (33 + k) = nI v → oN g k = v := fun {k v} hv e => by
    unfold oN
    rw [e]; exact iN (by omega)
  have P : PmO n (oN g) := pm_of (fun v hv => by
    obtain ⟨k, hk, e⟩ := s v hv
    exact ⟨k, hk, ov hv e⟩)
  refine ⟨P, fun k hk => ?_⟩
  obtain ⟨k2, hk2, e⟩ := s (oN g k) (P.1 k hk)
  have kk : k2 = k := P.2.1 k2 k hk2 hk (ov (P.1 k hk) e)
  rw [kk] at e
  exact e
/-! the spot of a set, the set at a spot -/
def saN (a : Nat → Nat) (n e : Nat) : Nat → Nat
  | 0 => 0
  | j + 1 => if e.testBit j = true then saN a n e j ||| 2 ^ a (n - 1 - j) else saN a n e j
def spN (a : Nat → Nat) (s : Nat) : Nat → Nat
  | 0 => 0
  | k + 1 => 2 * spN a s k + (if s.testBit (a k) = true then 1 else 0)
section SPOT
variable {a : Nat → Nat} {n : Nat}
theorem or_2 {x k i : Nat} : (x ||| 2 ^ k).testBit i = true ↔ x.testBit i = true ∨ i = k := by
  rw [Nat.testBit_or, Bool.or_eq_true, Nat.testBit_two_pow]
  constructor
  · rintro (h | h)
    · exact Or.inl h
    · exact Or.inr (of_decide_eq_true h).symm
  · rintro (h | h)
    · exact Or.inl h
    · exact Or.inr (decide_eq_true h.symm)
theorem sa_tb {e v : Nat} : ∀ {j : Nat}, (saN a n e j).testBit v = true ↔ ∃ i, i < j ∧ e.testBit i = true ∧ a (n - 1 - i) = v
  | 0 => by
    show (0 : Nat).testBit v = true ↔ _
    rw [Nat.zero_testBit]
    exact ⟨fun z => (by cases z), fun ⟨i, hi, _⟩ => absurd hi (Nat.not_lt_zero _)⟩
  | j + 1 => by
    have ih := sa_tb (e := e) (v := v) (j := j)
    show (if e.testBit j = true then saN a n e j ||| 2 ^ a (n - 1 - j) else saN a n e j).testBit v = true ↔ _
    by_cases q : e.testBit j = true
    · rw [if_pos q, or_2, ih]
      constructor
      · rintro (⟨i, hi, h1, h2⟩ | h)
        · exact ⟨i, by omega, h1, h2⟩
        · exact ⟨j, by omega, q, h.symm⟩
      · rintro ⟨i, hi, h1, h2⟩
        by_cases z : i = j
        · subst z; exact Or.inr h2.symm
        · exact Or.inl ⟨i, by omega, h1, h2⟩
    · rw [if_neg q, ih]
      constructor
      · rintro ⟨i, hi, h1, h2⟩; exact ⟨i, by omega, h1, h2⟩
      · rintro ⟨i, hi, h1, h2⟩
        refine ⟨i, ?_, h1, h2⟩
        by_cases z : i = j
        · subst z; exact absurd h1 q
        · omega
theorem sa_lt {e : Nat} (hP : PmO n a) : saN a n e n < 2 ^ n := lt_tb (fun v hv => by
  cases h : (saN a n e n).testBit v with
  | false => rfl
  | true =>
    obtain ⟨i, hi, _, h2⟩ := sa_tb.mp h
    have := hP.1 (n - 1 - i) (by omega)
    omega)
/-- a place more: the sets behind it -/
theorem sa_up {j x : Nat} (hx : x < 2 ^ j) : saN a n (2 ^ j + x) (j + 1) = saN a n x j ||| 2 ^ a (n - 1 - j) := by
  have p := pow_add hx
  show (if (2 ^ j + x).testBit j = true then saN a n (2 ^ j + x) j ||| 2 ^ a (n - 1 - j) else _) = _
  rw [if_pos p.1]
  congr 1
  apply Nat.eq_of_testBit_eq
  intro v
  rw [Bool.eq_iff_iff, sa_tb, sa_tb]
  constructor
  · rintro ⟨i, hi, h1, h2⟩; exact ⟨i, hi, by rw [← p.2 i hi]; exact h1, h2⟩
  · rintro ⟨i, hi, h1, h2⟩; exact ⟨i, hi, by rw [p.2 i hi]; exact h1, h2⟩
theorem sa_st {j x : Nat} (hx : x < 2 ^ j) : saN a n x (j + 1) = saN a n x j := by
  show (if x.testBit j = true then _ else _) = _
  rw [if_neg (by rw [tb_lt hx (Nat.le_refl _)]; decide)]
theorem sp_lt {s : Nat} : ∀ k, spN a s k < 2 ^ k
  | 0 => (by decide : (0 : Nat) < 2 ^ 0)
  | k + 1 => by
    have := sp_lt (s := s) k
    show 2 * spN a s k + (if s.testBit (a k) = true then 1 else 0) < 2 ^ (k + 1)
    rw [Nat.pow_succ]
    split <;> omega
theorem sp_tb {s : Nat} : ∀ k i, i < k → (spN a s k).testBit i = s.testBit (a (k - 1 - i))
  | 0, i, h => absurd h (Nat.not_lt_zero _)
  | k + 1, i, h => by
    have b : ∀ (x : Nat) (c : Bool), (2 * x + (if c = true then 1 else 0)).testBit 0 = c ∧ ∀ i, (2 * x + (if c = true then 1 else 0)).testBit (i + 1) = x.testBit i := fun x c => by
      constructor
      · rw [Nat.testBit_zero]
        cases c with
        | false => rw [if_neg (by decide)]; exact decide_eq_false (by omega)
        | true => rw [if_pos rfl]; exact decide_eq_true (by omega)
      · intro i
        rw [Nat.testBit_succ]
        congr 1
        split <;> omega
    show (2 * spN a s k + (if s.testBit (a k) = true then 1 else 0)).testBit i = _
    cases i with
    | zero => rw [(b _ _).1]; rfl
    | succ i =>
      rw [(b _ _).2, sp_tb k i (by omega)]
      congr 2
      omega
theorem sp_sa {e : Nat} (hP : PmO n a) (he : e < 2 ^ n) : spN a (saN a n e n) n = e := by
  apply Nat.eq_of_testBit_eq
  intro i
  by_cases hi : i < n
  · rw [sp_tb n i hi, Bool.eq_iff_iff, sa_tb]
    constructor
    · rintro ⟨j, hj, h1, h2⟩
      have := hP.2.1 _ _ (by omega) (by omega) h2
      rw [show i = j by omega]; exact h1
    · intro h; exact ⟨i, hi, h, rfl⟩
  · rw [tb_lt (sp_lt n) (by omega), tb_lt he (by omega)]
theorem sa_sp {s : Nat} (hP : PmO n a) (hs : s < 2 ^ n) : saN a n (spN a s n) n = s := by
  apply Nat.eq_of_testBit_eq
  intro v
  rw [Bool.eq_iff_iff, sa_tb]
  constructor
  · rintro ⟨j, hj, h1, h2⟩
    rw [sp_tb n j hj, h2] at h1; exact h1
  · intro h
    by_cases hv : v < n
    · obtain ⟨k, hk, e⟩ := hP.2.2 v hv
      refine ⟨n - 1 - k, by omega, ?_, ?_⟩
      · rw [sp_tb n _ (by omega), show n - 1 - (n - 1 - k) = k by omega, e]; exact h
      · rw [show n - 1 - (n - 1 - k) = k by omega]; exact e
    · rw [tb_lt hs (by omega)] at h; cases h
end SPOT
/-! blocks -/
section BLK
variable (Gr : Nat → Nat → Bool) (n : Nat)
def BB (k e t : Nat) : Bool := decide (t < 2 ^ (n - k)) && Gr (e / 2 ^ k) ((e % 2 ^ k) * 2 ^ (n - k) + t)
def QQ (k e : Nat) : Prop := ∃ t, 2 ^ (n - k - 1) ≤ t ∧ BB Gr n k e t = true
def SM (k e e' : Nat) : Prop := ∀ t, BB Gr n k e' t = BB Gr n k e t
def FO (k e : Nat) : Prop := QQ Gr n k e ∧ ∀ e', e' < e → QQ Gr n k e' → ¬ SM Gr n k e e'
noncomputable def cF (k m : Nat) : Nat := ct (bl (FO Gr n k)) m
end BLK
def sF (f : Nat → Nat) : Nat → Nat
  | 0 => 0
  | k + 1 => sF f k + f k
theorem sF_c {f g : Nat → Nat} : ∀ {n : Nat}, (∀ k, k < n → f k = g k) → sF f n = sF g n
  | 0, _ => rfl
  | n + 1, h => by
    show sF f n + f n = sF g n + g n
    rw [sF_c (fun k hk => h k (by omega)), h n (by omega)]
theorem sF_le {f g : Nat → Nat} : ∀ {n : Nat}, (∀ k, k < n → f k ≤ g k) → sF f n ≤ sF g n
  | 0, _ => Nat.le_refl _
  | n + 1, h => by
    have a := sF_le (n := n) (f := f) (g := g) (fun k hk => h k (by omega))
    have b := h n (by omega)
    show sF f n + f n ≤ sF g n + g n
    omega
theorem sF_1 {f g : Nat → Nat} {k0 d : Nat} : ∀ {n : Nat}, k0 < n → (∀ k, k < n → k ≠ k0 → g k = f k) → g k0 = f k0 + d → sF g n = sF f n + d
  | 0, h, _, _ => absurd h (Nat.not_lt_zero _)
  | n + 1, h, ho, h0 => by
    show sF g n + g n = sF f n + f n + d
    by_cases q : k0 = n
    · subst q
      rw [h0, sF_c (f := g) (g := f) (fun k hk => ho k (by omega) (by omega))]
      omega
    · have := sF_1 (n := n) (f := f) (g := g) (k0 := k0) (d := d) (by omega) (fun k hk => ho k (by omega)) h0
      rw [this, ho n (by omega) (fun z => q z.symm)]
      omega
def cd (T : Nat → Bool) : Nat → Nat
  | 0 => 0
  | k + 1 => cd T k + (if T k = true then 2 ^ k else 0)
theorem cd_lt {T : Nat → Bool} : ∀ k, cd T k < 2 ^ k
  | 0 => (by decide : (0 : Nat) < 2 ^ 0)
  | k + 1 => by
    have := cd_lt (T := T) k
    show cd T k + (if T k = true then 2 ^ k else 0) < 2 ^ (k + 1)
    rw [Nat.pow_succ]
    split <;> omega
theorem cd_in {T T' : Nat → Bool} : ∀ {k : Nat}, cd T k = cd T' k → ∀ i, i < k → T i = T' i
  | 0, _, i, h => absurd h (Nat.not_lt_zero _)
  | k + 1, e, i, h => by
    have e : cd T k + (if T k = true then 2 ^ k else 0) = cd T' k + (if T' k = true then 2 ^ k else 0) := e
    have a := cd_lt (T := T) k
    have b := cd_lt (T := T') k
    have top : T k = T' k ∧ cd T k = cd T' k := by
      cases q : T k with
      | false =>
        cases q' : T' k with
        | false =>
          rw [q, q', if_neg (by decide)] at e
          exact ⟨rfl, by omega⟩
        | true =>
          rw [q, q', if_neg (by decide), if_pos rfl] at e
          omega
      | true =>
        cases q' : T' k with
        | false =>
          rw [q, q', if_pos rfl, if_neg (by decide)] at e
          omega
        | true =>
          rw [q, q', if_pos rfl] at e
          exact ⟨rfl, by omega⟩
    by_cases z : i = k
    · rw [z]; exact top.1
    · exact cd_in top.2 i (by omega)
section BL2
variable {Gr : Nat → Nat → Bool} {n k e e' m r x t : Nat}
theorem bb_r (hx : x < 2 ^ k) : BB Gr n k (r * 2 ^ k + x) t = (decide (t < 2 ^ (n - k)) && Gr r (x * 2 ^ (n - k) + t)) := by
  have h0 : 0 < 2 ^ k := Nat.pow_pos (by decide)
  have d : (r * 2 ^ k + x) / 2 ^ k = r := by rw [Nat.add_comm, Nat.add_mul_div_right _ _ h0, Nat.div_eq_of_lt hx, Nat.zero_add]
  have o : (r * 2 ^ k + x) % 2 ^ k = x := by rw [Nat.add_comm, Nat.add_mul_mod_self_right, Nat.mod_eq_of_lt hx]
  unfold BB
  rw [d, o]
theorem bb_0 (h : 2 ^ (n - k) ≤ t) : BB Gr n k e t = false := by
  unfold BB
  rw [decide_eq_false (by omega)]; rfl
theorem bb_t (h : BB Gr n k e t = true) : t < 2 ^ (n - k) := by
  by_cases q : t < 2 ^ (n - k)
  · exact q
  · rw [bb_0 (by omega)] at h; cases h
theorem pw2 (hk : k < n) : 2 ^ (n - k) = 2 * 2 ^ (n - k - 1) ∧ 0 < 2 ^ (n - k - 1) ∧ n - (k + 1) = n - k - 1 := by
  refine ⟨?_, Nat.pow_pos (by decide), by omega⟩
  have : n - k = (n - k - 1) + 1 := by omega
  rw [this, Nat.pow_succ, Nat.mul_comm, Nat.add_sub_cancel]
theorem x2_lt (hx : x < 2 ^ k) : 2 * x < 2 ^ (k + 1) ∧ 2 * x + 1 < 2 ^ (k + 1) := by
  rw [Nat.pow_succ]; omega
theorem bb_lo (hk : k < n) (hx : x < 2 ^ k) (ht : t < 2 ^ (n - k - 1)) : BB Gr n k (r * 2 ^ k + x) t = BB Gr n (k + 1) (r * 2 ^ (k + 1) + 2 * x) t := by
  obtain ⟨a, b, c⟩ := pw2 hk
  rw [bb_r hx, bb_r (x2_lt hx).1, c, decide_eq_true (by omega), decide_eq_true ht]
  congr 2
  rw [a, ← Nat.mul_assoc, Nat.mul_comm x 2]
theorem bb_hi (hk : k < n) (hx : x < 2 ^ k) : BB Gr n k (r * 2 ^ k + x) (2 ^ (n - k - 1) + t) = BB Gr n (k + 1) (r * 2 ^ (k + 1) + (2 * x + 1)) t := by
  obtain ⟨a, b, c⟩ := pw2 hk
  rw [bb_r hx, bb_r (x2_lt hx).2, c]
  by_cases ht : t < 2 ^ (n - k - 1)
  · rw [decide_eq_true (by omega), decide_eq_true ht]
    congr 2
    rw [a, ← Nat.mul_assoc, Nat.add_mul, Nat.mul_comm x 2]
    omega
  · rw [decide_eq_false (by omega), decide_eq_false ht]; rfl
theorem cF_t (h : FO Gr n k m) : cF Gr n k (m + 1) = cF Gr n k m + 1 := ct_t (bl_t.mpr h)
theorem bl_f {P : Nat → Prop} {u : Nat} (h : ¬ P u) : bl P u = false := by
  cases q : bl P u with
  | false => rfl
  | true => exact absurd (bl_t.mp q) h
theorem cF_f (h : ¬ FO Gr n k m) : cF Gr n k (m + 1) = cF Gr n k m := ct_f (bl_f h)
theorem cF_m : cF Gr n k m ≤ m := ct_le _ _
theorem FO_in (ha : FO Gr n k e) (hb : FO Gr n k e') (h : SM Gr n k e e') : e = e' := by
  by_cases q : e' < e
  · exact absurd h (ha.2 e' q hb.1)
  · by_cases q2 : e < e'
    · exact absurd (fun t => (h t).symm) (hb.2 e q2 ha.1)
    · omega
theorem cF_p : cF Gr n k m ≤ 2 ^ 2 ^ (n - k) := pg_ct (c := fun e => cd (BB Gr n k e) (2 ^ (n - k))) (fun e _ _ => cd_lt _) (fun e e' _ _ a b h => FO_in (bl_t.mp a) (bl_t.mp b) (fun t => by
  by_cases q : t < 2 ^ (n - k)
  · exact (cd_in h t q).symm
  · rw [bb_0 (by omega), bb_0 (by omega)]))
/-- a block like an earlier one is like the first of these -/
theorem FO_ex : ∀ e', QQ Gr n k e' → SM Gr n k e e' → ∃ e2, e2 ≤ e' ∧ FO Gr n k e2 ∧ SM Gr n k e e2 := fun e' => by
  induction e' using Nat.strongRecOn with
  | ind e' ih =>
    intro q s
    by_cases z : FO Gr n k e'
    · exact ⟨e', Nat.le_refl _, z, s⟩
    · by_cases y : ∃ e3, e3 < e' ∧ QQ Gr n k e3 ∧ SM Gr n k e' e3
      · obtain ⟨e3, h3, q3, s3⟩ := y
        obtain ⟨e2, a, b, c⟩ := ih e3 h3 q3 (fun t => (s3 t).trans (s t))
        exact ⟨e2, by omega, b, c⟩
      · exact absurd ⟨q, fun e3 h3 q3 s3 => y ⟨e3, h3, q3, s3⟩⟩ z
/-- the bound of all places -/
def bdN (n k : Nat) : Nat := if n ≤ k + 3 then 2 ^ 2 ^ (n - k) else 10 * 2 ^ k
theorem bdN_s : ∀ n, n < 11 → 2 + sF (bdN n) n ≤ 1548 := by decide +kernel
theorem cF_b (hm : m ≤ 10 * 2 ^ k) : cF Gr n k m ≤ bdN n k := by
  unfold bdN
  split
  · exact cF_p
  · exact Nat.le_trans cF_m hm
end BL2

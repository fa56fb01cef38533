/-! ===== products and quotients of the class ===== -/
section CNT
variable {p q : Nat → Bool}
theorem ct_add (p q : Nat → Bool) : ∀ n, ct p n = ct (fun i => p i && q i) n + ct (fun i => p i && !q i) n
  | 0 => rfl
  | n + 1 => by
    show ct p n + (if p n = true then 1 else 0) = (ct (fun i => p i && q i) n + (if (p n && q n) = true then 1 else 0)) + (ct (fun i => p i && !q i) n + (if (p n && !q n) = true then 1 else 0))
    rw [ct_add p q n]
    generalize ct (fun i => p i && q i) n = a
    generalize ct (fun i => p i && !q i) n = b
    cases p n <;> cases q n <;> simp <;> omega
theorem ct_ex {p : Nat → Bool} : ∀ {n : Nat}, ¬ ct p n = 0 ↔ ∃ i, i < n ∧ p i = true
  | 0 => ⟨fun h => absurd rfl h, fun ⟨i, hi, _⟩ => absurd hi (by omega)⟩
  | n + 1 => by
    show ¬ ct p n + (if p n = true then 1 else 0) = 0 ↔ _
    constructor
    · intro h
      by_cases q : p n = true
      · exact ⟨n, by omega, q⟩
      · rw [if_neg q] at h
        obtain ⟨i, a, b⟩ := ct_ex.mp (show ¬ ct p n = 0 by omega)
        exact ⟨i, by omega, b⟩
    · rintro ⟨i, a, b⟩
      by_cases e : i = n
      · rw [e] at b; rw [if_pos b]; omega
      · have := ct_ex.mpr ⟨i, (show i < n by omega), b⟩
        omega
theorem ct_pair (A B : Nat → Bool) (M : Nat) (hM : 0 < M) : ∀ n, ct (fun i => A (i / M) && B (i % M)) (n * M) = ct A n * ct B M
  | 0 => by rw [Nat.zero_mul]; exact (Nat.zero_mul _).symm
  | n + 1 => by
    rw [Nat.succ_mul, ct_split, ct_pair A B M hM n]
    show _ = (ct A n + (if A n = true then 1 else 0)) * ct B M
    have e : ∀ k, k < M → (A ((n * M + k) / M) && B ((n * M + k) % M)) = (A n && B k) := fun k hk => by
      rw [Nat.mul_comm, Nat.mul_add_div hM, Nat.mul_add_mod, Nat.div_eq_of_lt hk, Nat.mod_eq_of_lt hk, Nat.add_zero]
    rw [ct_c e]
    cases hA : A n with
    | true =>
      rw [if_pos rfl, Nat.add_mul, Nat.one_mul]
      rw [show (fun k => true && B k) = B from funext (fun k => Bool.true_and (B k))]
    | false =>
      rw [if_neg (by simp), Nat.add_zero, ct_0 (p := fun k => false && B k) (fun k _ => rfl), Nat.add_zero]
end CNT
theorem add_c {a b c d : Nat} (h : a = c) (h2 : b = d) : a + b = c + d := by rw [h, h2]
section ZETA
variable {F G : Nat → Bool} {k s : Nat}
/-- members of F in s that are as s from bit k on -/
noncomputable def zPm (F : Nat → Bool) (k s : Nat) : Nat → Bool := by
  classical exact fun v => F v && decide (sb v s ∧ ∀ i, k ≤ i → v.testBit i = s.testBit i)
noncomputable def zc (F : Nat → Bool) (k s : Nat) : Nat := ct (zPm F k s) 1024
theorem zP_t {v : Nat} : zPm F k s v = true ↔ F v = true ∧ sb v s ∧ ∀ i, k ≤ i → v.testBit i = s.testBit i := by
  classical
  unfold zPm
  rw [Bool.and_eq_true, decide_eq_true_iff]
theorem zc_0 (hs : s < 1024) : zc F 0 s = if F s = true then 1 else 0 := by
  have only : ∀ v, zPm F 0 s v = true → v = s := fun v h => Nat.eq_of_testBit_eq (fun i => (zP_t.mp h).2.2 i (Nat.zero_le _))
  have self : zPm F 0 s s = F s := by
    cases h : F s with
    | true => exact zP_t.mpr ⟨h, sb.rf, fun _ _ => rfl⟩
    | false =>
      cases q : zPm F 0 s s with
      | false => rfl
      | true => rw [(zP_t.mp q).1] at h; cases h
  unfold zc
  rw [show 1024 = s + (1 + (1024 - s - 1)) by omega, ct_split, ct_split]
  have a : ct (zPm F 0 s) s = 0 := ct_0 (fun v hv => by
    cases q : zPm F 0 s v with
    | false => rfl
    | true => have := only v q; omega)
  have b : ct (fun k => zPm F 0 s (s + (1 + k))) (1024 - s - 1) = 0 := ct_0 (fun v hv => by
    cases q : zPm F 0 s (s + (1 + v)) with
    | false => rfl
    | true => have := only _ q; omega)
  rw [a, b]
  show 0 + ((0 + (if zPm F 0 s (s + 0) = true then 1 else 0)) + 0) = _
  rw [Nat.add_zero s, self]
  omega
theorem zc_s1 (hk : s.testBit k = false) : zc F (k + 1) s = zc F k s := by
  unfold zc
  refine ct_c (fun v _ => ?_)
  cases q : zPm F k s v with
  | true =>
    have h := zP_t.mp q
    exact zP_t.mpr ⟨h.1, h.2.1, fun i hi => h.2.2 i (by omega)⟩
  | false =>
    cases r : zPm F (k + 1) s v with
    | false => rfl
    | true =>
      have h := zP_t.mp r
      have : zPm F k s v = true := zP_t.mpr ⟨h.1, h.2.1, fun i hi => by
        by_cases e : i = k
        · rw [e, hk]
          cases w : v.testBit k with
          | false => rfl
          | true => rw [h.2.1 k w] at hk; cases hk
        · exact h.2.2 i (by omega)⟩
      rw [this] at q; cases q
theorem zc_s2 (hk : s.testBit k = true) : zc F (k + 1) s = zc F k s + zc F k (s ^^^ 2 ^ k) := by
  unfold zc
  rw [ct_add (zPm F (k + 1) s) (fun v => v.testBit k)]
  refine add_c ?_ ?_
  · refine ct_c (fun v _ => ?_)
    rw [Bool.eq_iff_iff, Bool.and_eq_true, zP_t, zP_t]
    constructor
    · rintro ⟨⟨a, b, c⟩, d⟩
      refine ⟨a, b, fun i hi => ?_⟩
      by_cases e : i = k
      · rw [e, d, hk]
      · exact c i (by omega)
    · rintro ⟨a, b, c⟩
      exact ⟨⟨a, b, fun i hi => c i (by omega)⟩, by rw [c k (Nat.le_refl _)]; exact hk⟩
  · refine ct_c (fun v _ => ?_)
    rw [Bool.eq_iff_iff, Bool.and_eq_true, zP_t, zP_t]
    constructor
    · rintro ⟨⟨a, b, c⟩, d⟩
      have d : v.testBit k = false := by simpa using d
      refine ⟨a, fun i q => ?_, fun i hi => ?_⟩
      · have ne : ¬ k = i := fun e => by rw [← e, d] at q; cases q
        rw [xb, decide_eq_false ne, Bool.xor_false]; exact b i q
      · by_cases e : k = i
        · rw [xb, ← e, d, hk, decide_eq_true rfl]; rfl
        · rw [xb, decide_eq_false e, Bool.xor_false]; exact c i (by omega)
    · rintro ⟨a, b, c⟩
      have d : v.testBit k = false := by rw [c k (Nat.le_refl _), xb, hk, decide_eq_true rfl]; rfl
      refine ⟨⟨a, fun i q => ?_, fun i hi => ?_⟩, by rw [d]; rfl⟩
      · have := b i q
        rw [xb] at this
        by_cases e : k = i
        · rw [← e]; exact hk
        · rw [decide_eq_false e, Bool.xor_false] at this; exact this
      · rw [c i (by omega), xb, decide_eq_false (show ¬ k = i by omega), Bool.xor_false]
/-- pairs in s whose join is as s below bit k -/
noncomputable def pP (F G : Nat → Bool) (k s : Nat) : Nat → Bool := by
  classical exact fun i => (F (i / 1024) && G (i % 1024)) && decide ((sb (i / 1024) s ∧ sb (i % 1024) s) ∧ ∀ j, j < k → (i / 1024 ||| i % 1024).testBit j = s.testBit j)
noncomputable def pc (F G : Nat → Bool) (k s : Nat) : Nat := ct (pP F G k s) (1024 * 1024)
theorem pP_t {i : Nat} : pP F G k s i = true ↔ (F (i / 1024) = true ∧ G (i % 1024) = true) ∧ (sb (i / 1024) s ∧ sb (i % 1024) s) ∧ ∀ j, j < k → (i / 1024 ||| i % 1024).testBit j = s.testBit j := by
  classical
  unfold pP
  rw [Bool.and_eq_true, Bool.and_eq_true, decide_eq_true_iff]
theorem pc_0 {n : Nat} (hs : s < 2 ^ n) : pc F G 0 s = zc F n s * zc G n s := by
  unfold pc zc
  rw [← ct_pair (zPm F n s) (zPm G n s) 1024 (by decide) 1024]
  refine ct_c (fun i _ => ?_)
  rw [Bool.eq_iff_iff, Bool.and_eq_true, pP_t, zP_t, zP_t]
  have hi : ∀ v, sb v s → ∀ j, n ≤ j → v.testBit j = s.testBit j := fun v h j hj => by rw [tb_lt hs hj, tb_lt (sb_lt h hs) hj]
  constructor
  · rintro ⟨⟨a, b⟩, ⟨c, d⟩, _⟩
    exact ⟨⟨a, c, hi _ c⟩, b, d, hi _ d⟩
  · rintro ⟨⟨a, c, _⟩, b, d, _⟩
    exact ⟨⟨a, b⟩, ⟨c, d⟩, fun j hj => absurd hj (by omega)⟩
theorem pc_s1 (hk : s.testBit k = false) : pc F G (k + 1) s = pc F G k s := by
  unfold pc
  refine ct_c (fun i _ => ?_)
  rw [Bool.eq_iff_iff, pP_t, pP_t]
  constructor
  · rintro ⟨a, b, c⟩
    exact ⟨a, b, fun j hj => c j (by omega)⟩
  · rintro ⟨a, b, c⟩
    refine ⟨a, b, fun j hj => ?_⟩
    by_cases e : j = k
    · rw [e, hk, Nat.testBit_or]
      have n1 : (i / 1024).testBit k = false := by
        cases w : (i / 1024).testBit k with
        | false => rfl
        | true => rw [b.1 k w] at hk; cases hk
      have n2 : (i % 1024).testBit k = false := by
        cases w : (i % 1024).testBit k with
        | false => rfl
        | true => rw [b.2 k w] at hk; cases hk
      rw [n1, n2]; rfl
    · exact c j (by omega)
theorem pc_s2 (hk : s.testBit k = true) : pc F G k s = pc F G (k + 1) s + pc F G k (s ^^^ 2 ^ k) := by
  unfold pc
  rw [ct_add (pP F G k s) (fun i => (i / 1024 ||| i % 1024).testBit k)]
  refine add_c ?_ ?_
  · refine ct_c (fun i _ => ?_)
    rw [Bool.eq_iff_iff, Bool.and_eq_true, pP_t, pP_t]
    constructor
    · rintro ⟨⟨a, b, c⟩, d⟩
      refine ⟨a, b, fun j hj => ?_⟩
      by_cases e : j = k
      · rw [e, d, hk]
      · exact c j (by omega)
    · rintro ⟨a, b, c⟩
      exact ⟨⟨a, b, fun j hj => c j (by omega)⟩, by rw [c k (by omega)]; exact hk⟩
  · refine ct_c (fun i _ => ?_)
    rw [Bool.eq_iff_iff, Bool.and_eq_true, pP_t, pP_t]
    have xs : ∀ v, v.testBit k = false → (sb v s ↔ sb v (s ^^^ 2 ^ k)) := fun v hv => by
      constructor
      · intro h j q
        have ne : ¬ k = j := fun e => by rw [← e, hv] at q; cases q
        rw [xb, decide_eq_false ne, Bool.xor_false]; exact h j q
      · intro h j q
        have := h j q
        rw [xb] at this
        by_cases e : k = j
        · rw [← e]; exact hk
        · rw [decide_eq_false e, Bool.xor_false] at this; exact this
    constructor
    · rintro ⟨⟨a, b, c⟩, d⟩
      have d : (i / 1024 ||| i % 1024).testBit k = false := by simpa using d
      rw [Nat.testBit_or, Bool.or_eq_false_iff] at d
      refine ⟨a, ⟨(xs _ d.1).mp b.1, (xs _ d.2).mp b.2⟩, fun j hj => ?_⟩
      rw [c j hj, xb, decide_eq_false (show ¬ k = j by omega), Bool.xor_false]
    · rintro ⟨a, b, c⟩
      have z : ∀ v, sb v (s ^^^ 2 ^ k) → v.testBit k = false := fun v h => by
        cases w : v.testBit k with
        | false => rfl
        | true =>
          have := h k w
          rw [xb, hk, decide_eq_true rfl] at this
          cases this
      have d1 := z _ b.1
      have d2 := z _ b.2
      refine ⟨⟨a, ⟨(xs _ d1).mpr b.1, (xs _ d2).mpr b.2⟩, fun j hj => ?_⟩, by rw [Nat.testBit_or, d1, d2]; rfl⟩
      rw [c j hj, xb, decide_eq_false (show ¬ k = j by omega), Bool.xor_false]
theorem pc_n {n : Nat} (hn : n ≤ 10) (hs : s < 2 ^ n) : ¬ pc F G n s = 0 ↔ ∃ a b, (a < 1024 ∧ F a = true) ∧ (b < 1024 ∧ G b = true) ∧ a ||| b = s := by
  unfold pc
  rw [ct_ex]
  constructor
  · rintro ⟨i, hi, h⟩
    obtain ⟨a, b, c⟩ := pP_t.mp h
    refine ⟨i / 1024, i % 1024, ⟨by omega, a.1⟩, ⟨by omega, a.2⟩, Nat.eq_of_testBit_eq (fun j => ?_)⟩
    by_cases e : j < n
    · exact c j e
    · rw [Nat.testBit_or, tb_lt hs (by omega), tb_lt (sb_lt b.1 hs) (by omega), tb_lt (sb_lt b.2 hs) (by omega)]; rfl
  · rintro ⟨a, b, ha, hb, e⟩
    have d1 : (1024 * a + b) / 1024 = a := by omega
    have d2 : (1024 * a + b) % 1024 = b := by omega
    refine ⟨1024 * a + b, by omega, pP_t.mpr ?_⟩
    rw [d1, d2]
    refine ⟨⟨ha.2, hb.2⟩, ⟨fun j q => ?_, fun j q => ?_⟩, fun j _ => by rw [e]⟩
    · rw [← e, Nat.testBit_or, q]; rfl
    · rw [← e, Nat.testBit_or, q, Bool.or_true]
end ZETA

/-! ===== sets as numbers ===== -/
/-- v lies in u -/
def sb (v u : Nat) : Prop := ∀ i, v.testBit i = true → u.testBit i = true
theorem sb.rf {u : Nat} : sb u u := fun _ h => h
theorem sb.tr {u v w : Nat} (h : sb u v) (h2 : sb v w) : sb u w := fun i q => h2 i (h i q)
theorem sb_and {v u : Nat} : sb v u ↔ v &&& u = v := by
  constructor
  · intro h
    apply Nat.eq_of_testBit_eq
    intro i
    rw [Nat.testBit_and]
    cases q : v.testBit i with
    | false => rfl
    | true => rw [h i q]; rfl
  · intro h i q
    rw [← h, Nat.testBit_and, Bool.and_eq_true] at q
    exact q.2
theorem tb_lt {u n i : Nat} (h : u < 2 ^ n) (hi : n ≤ i) : u.testBit i = false := Nat.testBit_lt_two_pow (Nat.lt_of_lt_of_le h (Nat.pow_le_pow_right (by decide) hi))
theorem lt_tb {u n : Nat} (h : ∀ i, n ≤ i → u.testBit i = false) : u < 2 ^ n := Nat.lt_pow_two_of_testBit u h
theorem sb_lt {v u n : Nat} (h : sb v u) (hu : u < 2 ^ n) : v < 2 ^ n := lt_tb (fun i hi => by
  cases q : v.testBit i with
  | false => rfl
  | true => have z := h i q; rw [tb_lt hu hi] at z; exact z.symm)
theorem xb {u k i : Nat} : (u ^^^ 2 ^ k).testBit i = (u.testBit i ^^ decide (k = i)) := by
  rw [Nat.testBit_xor, Nat.testBit_two_pow]
theorem x_lt {u k n : Nat} (h : u < 2 ^ n) (hk : k < n) : u ^^^ 2 ^ k < 2 ^ n := Nat.xor_lt_two_pow h (Nat.pow_lt_pow_right (by decide) hk)
theorem x_1024 {u k : Nat} (h : u < 1024) (hk : k < 10) : u ^^^ 2 ^ k < 1024 := x_lt (n := 10) h hk
theorem x_x {u k : Nat} : (u ^^^ 2 ^ k) ^^^ 2 ^ k = u := by rw [Nat.xor_assoc, Nat.xor_self, Nat.xor_zero]
/-- all above, by the first k names -/
def upI (F : Nat → Bool) : Nat → Nat → Bool
  | 0, u => F u
  | k + 1, u => upI F k u || (u.testBit k && upI F k (u ^^^ 2 ^ k))
theorem upI_iff {F : Nat → Bool} : ∀ {k u : Nat}, upI F k u = true ↔ ∃ v, sb v u ∧ (∀ i, k ≤ i → v.testBit i = u.testBit i) ∧ F v = true
  | 0, u => ⟨fun h => ⟨u, sb.rf, fun _ _ => rfl, h⟩, fun ⟨v, _, h2, h3⟩ => by
    have : v = u := Nat.eq_of_testBit_eq (fun i => h2 i (Nat.zero_le _))
    rw [← this]; exact h3⟩
  | k + 1, u => by
    show (upI F k u || (u.testBit k && upI F k (u ^^^ 2 ^ k))) = true ↔ _
    rw [Bool.or_eq_true, Bool.and_eq_true, upI_iff, upI_iff]
    constructor
    · rintro (⟨v, h1, h2, h3⟩ | ⟨hk, v, h1, h2, h3⟩)
      · exact ⟨v, h1, fun i hi => h2 i (by omega), h3⟩
      · refine ⟨v, fun i q => ?_, fun i hi => ?_, h3⟩
        · have := h1 i q
          rw [xb] at this
          by_cases e : k = i
          · rw [← e]; exact hk
          · rw [decide_eq_false e, Bool.xor_false] at this; exact this
        · rw [h2 i (by omega), xb, decide_eq_false (show ¬ k = i by omega), Bool.xor_false]
    · rintro ⟨v, h1, h2, h3⟩
      cases hv : v.testBit k with
      | true =>
        refine Or.inl ⟨v, h1, fun i hi => ?_, h3⟩
        by_cases e : i = k
        · rw [e, hv, h1 k hv]
        · exact h2 i (by omega)
      | false =>
        cases hu : u.testBit k with
        | false =>
          refine Or.inl ⟨v, h1, fun i hi => ?_, h3⟩
          by_cases e : i = k
          · rw [e, hv, hu]
          · exact h2 i (by omega)
        | true =>
          refine Or.inr ⟨rfl, v, fun i q => ?_, fun i hi => ?_, h3⟩
          · have ne : ¬ k = i := fun e => by rw [← e, hv] at q; cases q
            rw [xb, decide_eq_false ne, Bool.xor_false]; exact h1 i q
          · by_cases e : k = i
            · rw [xb, ← e, hv, hu, decide_eq_true rfl]; rfl
            · rw [xb, decide_eq_false e, Bool.xor_false]; exact h2 i (by omega)
/-- all below, by the first k names -/
def dnI (F : Nat → Bool) : Nat → Nat → Bool
  | 0, u => F u
  | k + 1, u => dnI F k u || (!u.testBit k && dnI F k (u ^^^ 2 ^ k))
theorem dnI_iff {F : Nat → Bool} : ∀ {k u : Nat}, dnI F k u = true ↔ ∃ v, sb u v ∧ (∀ i, k ≤ i → v.testBit i = u.testBit i) ∧ F v = true
  | 0, u => ⟨fun h => ⟨u, sb.rf, fun _ _ => rfl, h⟩, fun ⟨v, _, h2, h3⟩ => by
    have : v = u := Nat.eq_of_testBit_eq (fun i => h2 i (Nat.zero_le _))
    rw [← this]; exact h3⟩
  | k + 1, u => by
    show (dnI F k u || (!u.testBit k && dnI F k (u ^^^ 2 ^ k))) = true ↔ _
    rw [Bool.or_eq_true, Bool.and_eq_true, dnI_iff, dnI_iff]
    constructor
    · rintro (⟨v, h1, h2, h3⟩ | ⟨hk, v, h1, h2, h3⟩)
      · exact ⟨v, h1, fun i hi => h2 i (by omega), h3⟩
      · refine ⟨v, fun i q => ?_, fun i hi => ?_, h3⟩
        · refine h1 i ?_
          rw [xb]
          by_cases e : k = i
          · rw [← e] at q
            rw [q] at hk; cases hk
          · rw [decide_eq_false e, Bool.xor_false]; exact q
        · rw [h2 i (by omega), xb, decide_eq_false (show ¬ k = i by omega), Bool.xor_false]
    · rintro ⟨v, h1, h2, h3⟩
      cases hu : u.testBit k with
      | true =>
        refine Or.inl ⟨v, h1, fun i hi => ?_, h3⟩
        by_cases e : i = k
        · rw [e, hu, h1 k hu]
        · exact h2 i (by omega)
      | false =>
        cases hv : v.testBit k with
        | false =>
          refine Or.inl ⟨v, h1, fun i hi => ?_, h3⟩
          by_cases e : i = k
          · rw [e, hv, hu]
          · exact h2 i (by omega)
        | true =>
          refine Or.inr ⟨rfl, v, fun i q => ?_, fun i hi => ?_, h3⟩
          · rw [xb] at q
            by_cases e : k = i
            · rw [← e]; exact hv
            · rw [decide_eq_false e, Bool.xor_false] at q; exact h1 i q
          · by_cases e : k = i
            · rw [xb, ← e, hv, hu, decide_eq_true rfl]; rfl
            · rw [xb, decide_eq_false e, Bool.xor_false]; exact h2 i (by omega)
/-- the first k names changed -/
def flI (F : Nat → Bool) : Nat → Nat → Bool
  | 0, u => F u
  | k + 1, u => flI F k (u ^^^ 2 ^ k)
theorem flI_eq {F : Nat → Bool} : ∀ {k u : Nat}, flI F k u = F (u ^^^ (2 ^ k - 1))
  | 0, u => by show F u = _; rw [show u ^^^ (2 ^ 0 - 1) = u from Nat.xor_zero u]
  | k + 1, u => by
    show flI F k (u ^^^ 2 ^ k) = _
    rw [flI_eq]
    congr 1
    apply Nat.eq_of_testBit_eq
    intro i
    rw [Nat.testBit_xor, xb, Nat.testBit_xor, Nat.testBit_two_pow_sub_one, Nat.testBit_two_pow_sub_one, Bool.xor_assoc]
    congr 1
    by_cases a : i < k
    · rw [decide_eq_false (show ¬ k = i by omega), decide_eq_true a, decide_eq_true (by omega)]; rfl
    · by_cases b : k = i
      · rw [decide_eq_true b, decide_eq_false a, decide_eq_true (by omega)]; rfl
      · rw [decide_eq_false b, decide_eq_false a, decide_eq_false (by omega)]; rfl
/-! pure families of n names: what the operations give, for u below 2^n -/
section PURE
variable {F G : Nat → Bool} {n u : Nat}
/-- no member at or above 2^n -/
def inN (F : Nat → Bool) (n : Nat) : Prop := ∀ u, u < 1024 → F u = true → u < 2 ^ n
theorem up_iff (hF : inN F n) (hn : n ≤ 10) (hu : u < 1024) : (upI F n u = true ∧ u < 2 ^ n) ↔ (∃ v, sb v u ∧ F v = true) ∧ u < 2 ^ n := by
  constructor
  · rintro ⟨h, l⟩
    obtain ⟨v, a, _, c⟩ := upI_iff.mp h
    exact ⟨⟨v, a, c⟩, l⟩
  · rintro ⟨⟨v, a, c⟩, l⟩
    refine ⟨upI_iff.mpr ⟨v, a, fun i hi => ?_, c⟩, l⟩
    rw [tb_lt l hi, tb_lt (sb_lt a l) hi]
/-- a family goes up within its names -/
theorem up_in (hF : inN F n) (hu : u < 1024) (h : upI F n u = true) : u < 2 ^ n := by
  obtain ⟨v, a, b, c⟩ := upI_iff.mp h
  have hv : v < 1024 := sb_lt (n := 10) a hu
  have l := hF v hv c
  exact lt_tb (fun i hi => by rw [← b i hi]; exact tb_lt l hi)
theorem dn_in (hF : inN F n) (hF2 : ∀ v, F v = true → v < 1024) (h : dnI F n u = true) : u < 2 ^ n := by
  obtain ⟨v, a, b, c⟩ := dnI_iff.mp h
  exact sb_lt a (hF v (hF2 v c) c)
end PURE

/-! ===== the class's table of tokens ===== -/
def Pk (t : Nat → Int32) (n : Nat) : Nat → Nat
  | 0 => 0
  | k + 1 => tkE t n (Pk t n k)
/-- the class's kind of a token -/
def ck (k : Int32) : Int32 := if k = 1 then 2 else if k = 2 then 3 else if k = 3 then 1 else k
theorem ck_0 {k : Int32} : ck k = 0 ↔ k = 0 := by
  unfold ck
  by_cases a : k = 1
  · rw [if_pos a, a]; decide
  · by_cases b : k = 2
    · rw [if_neg a, if_pos b, b]; decide
    · by_cases c : k = 3
      · rw [if_neg a, if_neg b, if_pos c, c]; decide
      · rw [if_neg a, if_neg b, if_neg c]
theorem ck_w {k : Int32} : ck k = 2 ↔ k = 1 := by
  unfold ck
  by_cases a : k = 1
  · rw [if_pos a, a]; decide
  · by_cases b : k = 2
    · rw [if_neg a, if_pos b, b]; decide
    · by_cases c : k = 3
      · rw [if_neg a, if_neg b, if_pos c, c]; decide
      · rw [if_neg a, if_neg b, if_neg c]; exact ⟨fun q => absurd q b, fun q => absurd q a⟩
theorem ck_n {k : Int32} : ck k = 3 ↔ k = 2 := by
  unfold ck
  by_cases a : k = 1
  · rw [if_pos a, a]; decide
  · by_cases b : k = 2
    · rw [if_neg a, if_pos b, b]; decide
    · by_cases c : k = 3
      · rw [if_neg a, if_neg b, if_pos c, c]; decide
      · rw [if_neg a, if_neg b, if_neg c]; exact ⟨fun q => absurd q c, fun q => absurd q b⟩
theorem ck_s {k x : Int32} (hx : 4 ≤ x.toInt) : ck k = x ↔ k = x := by
  have z : ∀ y : Int32, y.toInt < 4 → ¬ y = x := fun y hy q => by rw [q] at hy; omega
  unfold ck
  by_cases a : k = 1
  · rw [if_pos a, a]; exact ⟨fun q => absurd q (z 2 (by decide)), fun q => absurd q (z 1 (by decide))⟩
  · by_cases b : k = 2
    · rw [if_neg a, if_pos b, b]; exact ⟨fun q => absurd q (z 3 (by decide)), fun q => absurd q (z 2 (by decide))⟩
    · by_cases c : k = 3
      · rw [if_neg a, if_neg b, if_pos c, c]; exact ⟨fun q => absurd q (z 1 (by decide)), fun q => absurd q (z 3 (by decide))⟩
      · rw [if_neg a, if_neg b, if_neg c]
noncomputable def wvF (C : Nat → Prop) : Int32 := by classical exact (if C 0 then 1 else if C 1 then 2 else if C 2 then 3 else if C 3 then 4 else if C 4 then 5 else if C 5 then 10 else if C 6 then 11 else if C 7 then 12 else if C 8 then 13 else if C 9 then 14 else if C 10 then 15 else -1)
/-- the class's value of the word at i -/
noncomputable def wv (t : Nat → Int32) (n i : Nat) : Int32 := wvF (fun w => isW t n i (w + 11))
/-- row k of the table is right -/
def TR (s : Nat → Nat → Int32) (t : Nat → Int32) (n k : Nat) : Prop := (s 61 k = ck (tkK t n (Pk t n k)) ∧ (s 63 k).toInt = (tkF t n (Pk t n k) : Int) ∧ (s 64 k).toInt = (tkE t n (Pk t n k) : Int)) ∧ (tkK t n (Pk t n k) = 2 → (s 62 k).toInt = min 1000000 (Nv t n (tkF t n (Pk t n k)) 0 : Int)) ∧ (tkK t n (Pk t n k) = 1 → s 62 k = wv t n (Pk t n k))
/-- the table of all tokens -/
def CT (s : Nat → Nat → Int32) (t : Nat → Int32) (n c : Nat) : Prop := (s 1 = t ∧ n ≤ 600 ∧ c ≤ 600) ∧ (∀ k, k < c → ¬ tkK t n (Pk t n k) = 0) ∧ tkK t n (Pk t n c) = 0 ∧ ∀ k, k ≤ c → TR s t n k
/-- a is the number of the token at i -/
def CA (a : Int32) (t : Nat → Int32) (n c i : Nat) : Prop := ∃ j : Nat, a.toInt = (j : Int) ∧ j ≤ c ∧ Pk t n j = i
theorem CT_tr {S : List Nat} {σ τ : zS} {t : Nat → Int32} {n c : Nat} (hT : Tr S σ τ) (h1 : 1 ∉ S) (h61 : 61 ∉ S) (h62 : 62 ∉ S) (h63 : 63 ∉ S) (h64 : 64 ∉ S) (h : CT σ.1 t n c) : CT τ.1 t n c := by
  unfold CT TR at h ⊢
  rw [hT.2 1 h1, hT.2 61 h61, hT.2 62 h62, hT.2 63 h63, hT.2 64 h64]; exact h
theorem Pk_le {t : Nat → Int32} {n : Nat} : ∀ k, Pk t n k ≤ n
  | 0 => Nat.zero_le _
  | k + 1 => (tk_le (Pk_le k)).2.2
/-- what stands in the table at the token of i -/
theorem CA_row {s : Nat → Nat → Int32} {t : Nat → Int32} {n c i : Nat} {a : Int32} (hC : CT s t n c) (hA : CA a t n c i) : (s 61 a.toNatClampNeg = ck (tkK t n i) ∧ (s 63 a.toNatClampNeg).toInt = (tkF t n i : Int) ∧ (s 64 a.toNatClampNeg).toInt = (tkE t n i : Int)) ∧ (tkK t n i = 2 → (s 62 a.toNatClampNeg).toInt = min 1000000 (Nv t n (tkF t n i) 0 : Int)) ∧ (tkK t n i = 1 → s 62 a.toNatClampNeg = wv t n i) := by
  obtain ⟨j, hj, hc, rfl⟩ := hA
  have e : a.toNatClampNeg = j := by
    show a.toInt.toNat = j
    omega
  rw [e]
  exact hC.2.2.2 j hc
theorem CA_next {s : Nat → Nat → Int32} {t : Nat → Int32} {n c i : Nat} {a b : Int32} (hC : CT s t n c) (hA : CA a t n c i) (hk : ¬ tkK t n i = 0) (hb : b.toInt = a.toInt + 1) : CA b t n c (tkE t n i) := by
  obtain ⟨j, hj, hc, rfl⟩ := hA
  refine ⟨j + 1, by omega, ?_, rfl⟩
  by_cases q : j = c
  · rw [q] at hk; exact absurd hC.2.2.1 hk
  · omega
theorem CA_le {t : Nat → Int32} {n c i : Nat} {a : Int32} (hA : CA a t n c i) : i ≤ n := by
  obtain ⟨j, _, _, rfl⟩ := hA
  exact Pk_le j
theorem CA_b {t : Nat → Int32} {n c i : Nat} {a : Int32} (hA : CA a t n c i) (hc : c ≤ 600) : 0 ≤ a.toInt ∧ a.toInt ≤ 600 := by
  obtain ⟨j, _, _, rfl⟩ := hA
  omega
theorem zch_11 : ∀ w, w < 11 → zlen.getD w 0 = zlen.getD (w + 11) 0 ∧ ∀ k, k < 20 → zch w (nI k) = zch (w + 11) (nI k) := by decide +kernel
theorem x_X5_isLetter {N : Nat} {x0 : Int32} {σ : zS} : Ok (f_X5_isLetter N x0 σ) (fun r => r.2 = σ ∧ ((r.1 = 0 → ¬ isLt x0) ∧ (¬ r.1 = 0 → isLt x0))) := by
  rw [f_X5_isLetter.eq_1]
  unfold isLt
  refine ok_if (fun h => ok_rZ (Or.inl rfl) ⟨rfl, fun _ => ?_, fun q => absurd rfl q⟩) (fun h => ok_if (fun h2 => ok_rZ (Or.inl rfl) ⟨rfl, fun _ => ?_, fun q => absurd rfl q⟩) (fun h2 => ok_rZ (Or.inr rfl) ⟨rfl, fun q => absurd (show (1 : Int32) = 0 from q) (by decide), fun _ => ?_⟩))
  all_goals simp only [Int32.lt_iff_toInt_lt, Int32.reduceToInt] at *; omega
theorem x_X5_isDigit {N : Nat} {x0 : Int32} {σ : zS} : Ok (f_X5_isDigit N x0 σ) (fun r => r.2 = σ ∧ ((r.1 = 0 → ¬ isDg x0) ∧ (¬ r.1 = 0 → isDg x0))) := by
  rw [f_X5_isDigit.eq_1]
  unfold isDg
  refine ok_if (fun h => ok_rZ (Or.inl rfl) ⟨rfl, fun _ => ?_, fun q => absurd rfl q⟩) (fun h => ok_if (fun h2 => ok_rZ (Or.inl rfl) ⟨rfl, fun _ => ?_, fun q => absurd rfl q⟩) (fun h2 => ok_rZ (Or.inr rfl) ⟨rfl, fun q => absurd (show (1 : Int32) = 0 from q) (by decide), fun _ => ?_⟩))
  all_goals simp only [Int32.lt_iff_toInt_lt, Int32.reduceToInt] at *; omega
theorem x_X5_combination {N : Nat} {x0 : Int32} {σ : zS} : Ok (f_X5_combination N x0 σ) (fun r => r.2 = σ ∧ ((r.1 = -1 ∧ ¬ isCb x0) ∨ ((0 ≤ r.1.toInt ∧ r.1.toInt ≤ 6) ∧ isCb x0))) := by
  rw [f_X5_combination.eq_1]
  unfold isCb
  repeat' first
    | exact ok_some ⟨rfl, Or.inl ⟨rfl, by simp only [*, or_self, not_false_eq_true]⟩⟩
    | refine ok_if (fun h => ok_some ⟨rfl, Or.inl ⟨rfl, by rw [h]; decide⟩⟩) (fun h => ?_)
    | refine ok_if (fun h => ok_some ⟨rfl, Or.inr ⟨by simp only [Int32.reduceToInt]; decide, by rw [h]; decide⟩⟩) (fun h => ?_)
theorem sgn_cb {c : Int32} (h : isCb c) : sgn c := by
  unfold isCb at h
  unfold sgn
  rcases h with rfl | rfl | rfl | rfl | rfl | rfl | rfl <;> decide
theorem x_X5_isSign {N : Nat} {x0 : Int32} {σ : zS} : Ok (f_X5_isSign N x0 σ) (fun r => r.2 = σ ∧ ((r.1 = 0 → ¬ sgn x0) ∧ (¬ r.1 = 0 → sgn x0))) := by
  rw [f_X5_isSign.eq_1]
  repeat' first
    | refine ok_if (fun h => ok_rZ (Or.inr rfl) ⟨rfl, fun q => absurd (show (1 : Int32) = 0 from q) (by decide), fun _ => by unfold sgn; simp only [h, true_or, or_true]⟩) (fun h => ?_)
  refine ok_zbX (Q := fun v => (v = -1 ∧ ¬ isCb x0) ∨ ((0 ≤ v.toInt ∧ v.toInt ≤ 6) ∧ isCb x0)) x_X5_combination (fun v hv => ?_)
  refine ok_if (fun hc => ok_rZ (Or.inl rfl) ⟨rfl, fun _ q => ?_, fun q => absurd rfl q⟩) (fun hc => ok_rZ (Or.inr rfl) ⟨rfl, fun q => absurd (show (1 : Int32) = 0 from q) (by decide), fun _ => ?_⟩)
  · rw [Int32.lt_iff_toInt_lt] at hc
    simp only [Int32.reduceToInt] at hc
    have hn := (hv.resolve_right (fun z => by omega)).2
    unfold sgn at q
    unfold isCb at hn
    simp only [*, false_or, or_false] at q
  · have hn := (hv.resolve_left (fun z => hc (by rw [z.1]; decide))).2
    exact sgn_cb hn

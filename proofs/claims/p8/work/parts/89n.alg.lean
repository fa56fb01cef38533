/-! ===== the class's algebra: least, greatest, missing, above, below ===== -/
/-- longs of the rows of L alone may be other -/
def LG (L : List Nat) (σ τ : zS) : Prop := τ.1 = σ.1 ∧ τ.2.2 = σ.2.2 ∧ ∀ a, a ∉ L → τ.2.1 a = σ.2.1 a
theorem LG.rf {L : List Nat} {σ : zS} : LG L σ σ := ⟨rfl, rfl, fun _ _ => rfl⟩
theorem LG.tr {L : List Nat} {σ τ υ : zS} (h : LG L σ τ) (h2 : LG L τ υ) : LG L σ υ := ⟨h2.1.trans h.1, h2.2.1.trans h.2.1, fun a ha => (h2.2.2 a ha).trans (h.2.2 a ha)⟩
theorem LF.G {k : Nat} {L : List Nat} {σ τ : zS} (h : LF k σ τ) (hk : k ∈ L) : LG L σ τ := ⟨h.1, h.2.1, fun a ha => h.2.2 a (fun e => ha (by rw [e]; exact hk))⟩
theorem LG.R {L : List Nat} {σ τ : zS} (h : LG L σ τ) (hR : RF σ.2.2) : RF τ.2.2 := by rw [h.2.1]; exact hR
section ALG
variable {N f n : Nat} {σ : zS}
/-- a family that is none of the algebra's own -/
def isF (f : Nat) : Prop := (zKd f).1 = 2 ∧ f ≠ 100 ∧ f ≠ 102 ∧ f ≠ 104
theorem nle {n m : Nat} (hn : n ≤ 10) (hm : m ≤ 10) : nI n ≤ nI m ↔ n ≤ m := by
  rw [Int32.le_iff_toInt_le, nI_toInt (by omega), nI_toInt (by omega)]
  omega
theorem nI_s1 {m : Nat} (hm : m ≤ 2000) : nI m + 1 = nI (m + 1) := by
  apply Int32.toInt_inj.mp
  rw [a1_ (by rw [nI_toInt (by omega)]; omega), nI_toInt (by omega), nI_toInt (by omega)]
  omega
theorem k100 : (zKd 100).1 = 2 ∧ (zKd 102).1 = 2 ∧ (zKd 104).1 = 2 := by decide
theorem v_raiseAll {x0 : Nat} (hR : RF σ.2.2) (h0 : (zKd f).1 = 2) (hn : n ≤ 10) : Pt (f_X0_raiseAll N x0 f (nI n) σ) (fun r => LF (f + 1) σ r.2 ∧ ∀ u, u < 1024 → bt (r.2.2.1 (f + 1)) u = upI (bt (σ.2.1 (f + 1))) n u) := by
  rw [f_X0_raiseAll.eq_1]
  refine pt_lp (fun s : Int32 × zS => ∃ m, (s.1 = nI m ∧ m ≤ n) ∧ LF (f + 1) σ s.2 ∧ ∀ u, u < 1024 → bt (s.2.2.1 (f + 1)) u = upI (bt (σ.2.1 (f + 1))) m u) (fun again s hI ih => ?_) N _ ⟨0, ⟨rfl, Nat.zero_le _⟩, LF.rf, fun _ _ => rfl⟩
  obtain ⟨x3, τ⟩ := s
  obtain ⟨m, ⟨e, hm⟩, hl, hu⟩ := hI
  have e : x3 = nI m := e
  subst e
  have hl : LF (f + 1) σ τ := hl
  have hu : ∀ u, u < 1024 → bt (τ.2.1 (f + 1)) u = upI (bt (σ.2.1 (f + 1))) m u := hu
  rw [F_X0_raiseAll_2.eq_1]
  refine pt_if (fun q => pt_some ⟨hl, ?_⟩) (fun q => ?_)
  · rw [nle hn (by omega)] at q
    rw [show n = m by omega]; exact hu
  · rw [nle hn (by omega)] at q
    refine pt_gC (pt_zb (v_raise (k := m) (hl.R hR) h0 (by omega)) (fun _ σ1 h => ?_))
    obtain ⟨l1, u1⟩ := h
    rw [nI_s1 (by omega)]
    refine ih (nI (m + 1), σ1) ⟨m + 1, ⟨rfl, by omega⟩, hl.tr l1, fun u h => ?_⟩
    show bt (σ1.2.1 (f + 1)) u = _
    rw [u1 u h, hu u h, hu _ (x_1024 h (by omega))]
    rfl
theorem v_lowerAll {x0 : Nat} (hR : RF σ.2.2) (h0 : (zKd f).1 = 2) (hn : n ≤ 10) : Pt (f_X0_lowerAll N x0 f (nI n) σ) (fun r => LF (f + 1) σ r.2 ∧ ∀ u, u < 1024 → bt (r.2.2.1 (f + 1)) u = dnI (bt (σ.2.1 (f + 1))) n u) := by
  rw [f_X0_lowerAll.eq_1]
  refine pt_lp (fun s : Int32 × zS => ∃ m, (s.1 = nI m ∧ m ≤ n) ∧ LF (f + 1) σ s.2 ∧ ∀ u, u < 1024 → bt (s.2.2.1 (f + 1)) u = dnI (bt (σ.2.1 (f + 1))) m u) (fun again s hI ih => ?_) N _ ⟨0, ⟨rfl, Nat.zero_le _⟩, LF.rf, fun _ _ => rfl⟩
  obtain ⟨x3, τ⟩ := s
  obtain ⟨m, ⟨e, hm⟩, hl, hu⟩ := hI
  have e : x3 = nI m := e
  subst e
  have hl : LF (f + 1) σ τ := hl
  have hu : ∀ u, u < 1024 → bt (τ.2.1 (f + 1)) u = dnI (bt (σ.2.1 (f + 1))) m u := hu
  rw [F_X0_lowerAll_2.eq_1]
  refine pt_if (fun q => pt_some ⟨hl, ?_⟩) (fun q => ?_)
  · rw [nle hn (by omega)] at q
    rw [show n = m by omega]; exact hu
  · rw [nle hn (by omega)] at q
    refine pt_gC (pt_zb (v_lower (k := m) (hl.R hR) h0 (by omega)) (fun _ σ1 h => ?_))
    obtain ⟨l1, u1⟩ := h
    rw [nI_s1 (by omega)]
    refine ih (nI (m + 1), σ1) ⟨m + 1, ⟨rfl, by omega⟩, hl.tr l1, fun u h => ?_⟩
    show bt (σ1.2.1 (f + 1)) u = _
    rw [u1 u h, hu u h, hu _ (x_1024 h (by omega))]
    rfl
theorem v_becomeMissing (hR : RF σ.2.2) (h0 : (zKd f).1 = 2) (hn : n ≤ 10) : Pt (f_X0_becomeMissing N 99 f (nI n) σ) (fun r => LF (f + 1) σ r.2 ∧ ∀ u, u < 1024 → bt (r.2.2.1 (f + 1)) u = upI (bt (σ.2.1 (f + 1))) n (u ^^^ (2 ^ n - 1))) := by
  rw [f_X0_becomeMissing.eq_1]
  refine pt_gC (pt_zb (v_raiseAll hR h0 hn) (fun _ σ1 h1 => ?_))
  obtain ⟨l1, u1⟩ := h1
  have l1 : LF (f + 1) σ σ1 := l1
  have u1 : ∀ u, u < 1024 → bt (σ1.2.1 (f + 1)) u = upI (bt (σ.2.1 (f + 1))) n u := u1
  refine pt_w (Q := fun r => LF (f + 1) σ r.2 ∧ ∀ u, u < 1024 → bt (r.2.2.1 (f + 1)) u = flI (bt (σ1.2.1 (f + 1))) n u) ?_ (fun r h => ⟨h.1, fun u hu => ?_⟩)
  · refine pt_lp (fun s : Int32 × zS => ∃ m, (s.1 = nI m ∧ m ≤ n) ∧ LF (f + 1) σ s.2 ∧ ∀ u, u < 1024 → bt (s.2.2.1 (f + 1)) u = flI (bt (σ1.2.1 (f + 1))) m u) (fun again s hI ih => ?_) N _ ⟨0, ⟨rfl, Nat.zero_le _⟩, l1, fun _ _ => rfl⟩
    obtain ⟨x3, τ⟩ := s
    obtain ⟨m, ⟨e, hm⟩, hl, hu⟩ := hI
    have e : x3 = nI m := e
    subst e
    have hl : LF (f + 1) σ τ := hl
    have hu : ∀ u, u < 1024 → bt (τ.2.1 (f + 1)) u = flI (bt (σ1.2.1 (f + 1))) m u := hu
    rw [F_X0_becomeMissing_8.eq_1]
    refine pt_if (fun q => pt_some ⟨hl, ?_⟩) (fun q => ?_)
    · rw [nle hn (by omega)] at q
      rw [show n = m by omega]; exact hu
    · rw [nle hn (by omega)] at q
      refine pt_gC (pt_zb (v_flip (k := m) (hl.R hR) h0 (by omega)) (fun _ σ2 h => ?_))
      obtain ⟨l2, u2⟩ := h
      rw [nI_s1 (by omega)]
      refine ih (nI (m + 1), σ2) ⟨m + 1, ⟨rfl, by omega⟩, hl.tr l2, fun u h => ?_⟩
      show bt (σ2.2.1 (f + 1)) u = _
      rw [u2 u h, hu _ (x_1024 h (by omega))]
      rfl
  · rw [h.2 u hu, flI_eq]
    refine u1 _ ?_
    have p : 2 ^ n - 1 < 2 ^ 10 := by
      have : 2 ^ n ≤ 2 ^ 10 := Nat.pow_le_pow_right (by decide) hn
      have := Nat.pow_pos (n := n) (show 0 < 2 by decide)
      omega
    exact Nat.xor_lt_two_pow (n := 10) hu p
theorem v_complement (hR : RF σ.2.2) (hF : isF f) (hn : n ≤ 10) : Pt (f_X0_complement N 99 f (nI n) σ) (fun r => LG [f + 1, 101] σ r.2 ∧ ∀ u, u < 1024 → bt (r.2.2.1 (f + 1)) u = (decide (u < 2 ^ n) && !bt (σ.2.1 (f + 1)) u)) := by
  rw [f_X0_complement.eq_1]
  refine pt_gR (v := 100) (hR 99 0 rfl) (pt_gC (pt_zb (v_becomeAll hR k100.1 hn) (fun _ σ1 h1 => ?_)))
  obtain ⟨l1, u1⟩ := h1
  have l1 : LF 101 σ σ1 := l1
  have u1 : ∀ u, u < 1024 → bt (σ1.2.1 101) u = decide (u < 2 ^ n) := u1
  have R1 := l1.R hR
  refine pt_gR (v := 100) (R1 99 0 rfl) (pt_gC (pt_zb (v_takeAway R1 k100.1 hF.1) (fun _ σ2 h2 => ?_)))
  obtain ⟨l2, u2⟩ := h2
  have l2 : LF 101 σ1 σ2 := l2
  have u2 : ∀ u, u < 1024 → bt (σ2.2.1 101) u = (bt (σ1.2.1 101) u && !bt (σ1.2.1 (f + 1)) u) := u2
  have R2 := l2.R R1
  refine pt_gR (v := 100) (R2 99 0 rfl) (pt_gC (pt_zb (v_copyFrom R2 hF.1 k100.1) (fun _ σ3 h3 => pt_some ?_)))
  obtain ⟨l3, u3⟩ := h3
  have l3 : LF (f + 1) σ2 σ3 := l3
  refine ⟨((l1.G (by simp)).tr (l2.G (by simp))).tr (l3.G (by simp)), fun u hu => ?_⟩
  have e : σ1.2.1 (f + 1) = σ.2.1 (f + 1) := l1.2.2 _ (by have := hF.2.1; omega)
  have u3 : bt (σ3.2.1 (f + 1)) u = bt (σ2.2.1 101) u := u3 u hu
  show bt (σ3.2.1 (f + 1)) u = _
  rw [u3, u2 u hu, u1 u hu, e]
/-- a member and one name more -/
def ovI (F : Nat → Bool) : Nat → Nat → Bool
  | 0, _ => false
  | k + 1, u => ovI F k u || (F (u ^^^ 2 ^ k) && u.testBit k)
theorem ovI_iff {F : Nat → Bool} : ∀ {k u : Nat}, ovI F k u = true ↔ ∃ i, i < k ∧ u.testBit i = true ∧ F (u ^^^ 2 ^ i) = true
  | 0, u => ⟨fun h => (by cases h), fun ⟨i, hi, _⟩ => absurd hi (by omega)⟩
  | k + 1, u => by
    show (ovI F k u || (F (u ^^^ 2 ^ k) && u.testBit k)) = true ↔ _
    rw [Bool.or_eq_true, Bool.and_eq_true, ovI_iff]
    constructor
    · rintro (⟨i, h1, h2⟩ | ⟨h1, h2⟩)
      · exact ⟨i, by omega, h2⟩
      · exact ⟨k, by omega, h2, h1⟩
    · rintro ⟨i, h1, h2, h3⟩
      by_cases e : i = k
      · rw [← e]; exact Or.inr ⟨h3, h2⟩
      · exact Or.inl ⟨i, by omega, h2, h3⟩
/-- a member and one name less -/
def udI (F : Nat → Bool) : Nat → Nat → Bool
  | 0, _ => false
  | k + 1, u => udI F k u || (F (u ^^^ 2 ^ k) && !u.testBit k)
theorem udI_iff {F : Nat → Bool} : ∀ {k u : Nat}, udI F k u = true ↔ ∃ i, i < k ∧ u.testBit i = false ∧ F (u ^^^ 2 ^ i) = true
  | 0, u => ⟨fun h => (by cases h), fun ⟨i, hi, _⟩ => absurd hi (by omega)⟩
  | k + 1, u => by
    show (udI F k u || (F (u ^^^ 2 ^ k) && !u.testBit k)) = true ↔ _
    rw [Bool.or_eq_true, Bool.and_eq_true, udI_iff]
    constructor
    · rintro (⟨i, h1, h2⟩ | ⟨h1, h2⟩)
      · exact ⟨i, by omega, h2⟩
      · exact ⟨k, by omega, by simpa using h2, h1⟩
    · rintro ⟨i, h1, h2, h3⟩
      by_cases e : i = k
      · rw [← e]; exact Or.inr ⟨h3, by rw [h2]; rfl⟩
      · exact Or.inl ⟨i, by omega, h2, h3⟩
theorem v_keepLeast (hR : RF σ.2.2) (hF : isF f) (hn : n ≤ 10) : Pt (f_X0_keepLeast N 99 f (nI n) σ) (fun r => LG [f + 1, 101, 103] σ r.2 ∧ ∀ u, u < 1024 → bt (r.2.2.1 (f + 1)) u = (bt (σ.2.1 (f + 1)) u && !upI (ovI (bt (σ.2.1 (f + 1))) n) n u)) := by
  have hF2 := hF.2
  rw [f_X0_keepLeast.eq_1]
  refine pt_gR (v := 100) (hR 99 0 rfl) (pt_gC (pt_zb (v_clear hR k100.1) (fun _ σ1 h1 => ?_)))
  obtain ⟨l1, u1⟩ := h1
  have l1 : LF 101 σ σ1 := l1
  have u1 : ∀ u, u < 1024 → bt (σ1.2.1 101) u = false := u1
  refine pt_lp (fun s : Int32 × zS => ∃ m, (s.1 = nI m ∧ m ≤ n) ∧ LG [101, 103] σ s.2 ∧ ∀ u, u < 1024 → bt (s.2.2.1 101) u = ovI (bt (σ.2.1 (f + 1))) m u) (fun again s hI ih => ?_) N _ ⟨0, ⟨rfl, Nat.zero_le _⟩, l1.G (by simp), u1⟩
  obtain ⟨x3, τ⟩ := s
  obtain ⟨m, ⟨e, hm⟩, hl, hu⟩ := hI
  have e : x3 = nI m := e
  subst e
  have hl : LG [101, 103] σ τ := hl
  have hu : ∀ u, u < 1024 → bt (τ.2.1 101) u = ovI (bt (σ.2.1 (f + 1))) m u := hu
  have R9 := hl.R hR
  have eF : τ.2.1 (f + 1) = σ.2.1 (f + 1) := hl.2.2 _ (by simp only [List.mem_cons, List.not_mem_nil, or_false]; omega)
  rw [F_X0_keepLeast_9.eq_1]
  refine pt_if (fun q => ?_) (fun q => ?_)
  · rw [nle hn (by omega)] at q
    have e : n = m := by omega
    subst e
    refine pt_gR (v := 100) (R9 99 0 rfl) (pt_gC (pt_zb (v_raiseAll R9 k100.1 hn) (fun _ σ2 h2 => ?_)))
    obtain ⟨l2, u2⟩ := h2
    have l2 : LF 101 τ σ2 := l2
    have u2 : ∀ u, u < 1024 → bt (σ2.2.1 101) u = upI (bt (τ.2.1 101)) n u := u2
    have R2 := l2.R R9
    refine pt_gR (v := 100) (R2 99 0 rfl) (pt_gC (pt_zb (v_takeAway R2 hF.1 k100.1) (fun _ σ3 h3 => pt_some ?_)))
    obtain ⟨l3, u3⟩ := h3
    have l3 : LF (f + 1) σ2 σ3 := l3
    refine ⟨⟨l3.1.trans (l2.1.trans hl.1), l3.2.1.trans (l2.2.1.trans hl.2.1), fun a ha => ?_⟩, fun u h => ?_⟩
    · simp only [List.mem_cons, List.not_mem_nil, or_false, not_or] at ha
      show σ3.2.1 a = _
      rw [l3.2.2 a ha.1, l2.2.2 a ha.2.1]
      exact hl.2.2 a (by simp only [List.mem_cons, List.not_mem_nil, or_false]; omega)
    · have u3 : bt (σ3.2.1 (f + 1)) u = (bt (σ2.2.1 (f + 1)) u && !bt (σ2.2.1 101) u) := u3 u h
      show bt (σ3.2.1 (f + 1)) u = _
      rw [u3, l2.2.2 (f + 1) (by omega), eF, u2 u h]
      congr 2
      have cg : ∀ k, k ≤ 10 → ∀ u, u < 1024 → upI (bt (τ.2.1 101)) k u = upI (ovI (bt (σ.2.1 (f + 1))) n) k u := by
        intro k
        induction k with
        | zero => intro _ u hu'; exact hu u hu'
        | succ k ihk =>
          intro hk u hu'
          show (upI _ k u || (u.testBit k && upI _ k (u ^^^ 2 ^ k))) = (upI _ k u || (u.testBit k && upI _ k (u ^^^ 2 ^ k)))
          rw [ihk (by omega) u hu', ihk (by omega) _ (x_1024 hu' (by omega))]
      exact cg n hn u h
  · rw [nle hn (by omega)] at q
    refine pt_gR (v := 102) (R9 99 1 rfl) (pt_gC (pt_zb (v_copyFrom R9 k100.2.1 hF.1) (fun _ σ2 h2 => ?_)))
    obtain ⟨l2, u2⟩ := h2
    have l2 : LF 103 τ σ2 := l2
    have u2 : ∀ u, u < 1024 → bt (σ2.2.1 103) u = bt (τ.2.1 (f + 1)) u := u2
    have R2 := l2.R R9
    refine pt_gR (v := 102) (R2 99 1 rfl) (pt_gC (pt_zb (v_keepWithout (k := m) R2 k100.2.1 (by omega)) (fun _ σ3 h3 => ?_)))
    obtain ⟨l3, u3⟩ := h3
    have l3 : LF 103 σ2 σ3 := l3
    have u3 : ∀ u, u < 1024 → bt (σ3.2.1 103) u = (bt (σ2.2.1 103) u && !u.testBit m) := u3
    have R3 := l3.R R2
    refine pt_gR (v := 102) (R3 99 1 rfl) (pt_gC (pt_zb (v_flip (k := m) R3 k100.2.1 (by omega)) (fun _ σ4 h4 => ?_)))
    obtain ⟨l4, u4⟩ := h4
    have l4 : LF 103 σ3 σ4 := l4
    have u4 : ∀ u, u < 1024 → bt (σ4.2.1 103) u = bt (σ3.2.1 103) (u ^^^ 2 ^ m) := u4
    have R4 := l4.R R3
    refine pt_gR (v := 100) (R4 99 0 rfl) (pt_gR (v := 102) (R4 99 1 rfl) (pt_gC (pt_zb (v_join R4 k100.1 k100.2.1) (fun _ σ5 h5 => ?_))))
    obtain ⟨l5, u5⟩ := h5
    have l5 : LF 101 σ4 σ5 := l5
    have u5 : ∀ u, u < 1024 → bt (σ5.2.1 101) u = (bt (σ4.2.1 101) u || bt (σ4.2.1 103) u) := u5
    rw [nI_s1 (by omega)]
    refine ih (nI (m + 1), σ5) ⟨m + 1, ⟨rfl, by omega⟩, (((hl.tr (l2.G (by simp))).tr (l3.G (by simp))).tr (l4.G (by simp))).tr (l5.G (by simp)), fun u h => ?_⟩
    show bt (σ5.2.1 101) u = _
    have hx := x_1024 (k := m) h (by omega)
    rw [u5 u h, u4 u h, u3 _ hx, u2 _ hx, l4.2.2 101 (by decide), l3.2.2 101 (by decide), l2.2.2 101 (by decide), hu u h, eF]
    show _ = (ovI _ m u || (bt (σ.2.1 (f + 1)) (u ^^^ 2 ^ m) && u.testBit m))
    rw [xb, decide_eq_true rfl, Bool.xor_true, Bool.not_not]
theorem v_keepGreatest (hR : RF σ.2.2) (hF : isF f) (hn : n ≤ 10) : Pt (f_X0_keepGreatest N 99 f (nI n) σ) (fun r => LG [f + 1, 101, 103] σ r.2 ∧ ∀ u, u < 1024 → bt (r.2.2.1 (f + 1)) u = (bt (σ.2.1 (f + 1)) u && !dnI (udI (bt (σ.2.1 (f + 1))) n) n u)) := by
  have hF2 := hF.2
  rw [f_X0_keepGreatest.eq_1]
  refine pt_gR (v := 100) (hR 99 0 rfl) (pt_gC (pt_zb (v_clear hR k100.1) (fun _ σ1 h1 => ?_)))
  obtain ⟨l1, u1⟩ := h1
  have l1 : LF 101 σ σ1 := l1
  have u1 : ∀ u, u < 1024 → bt (σ1.2.1 101) u = false := u1
  refine pt_lp (fun s : Int32 × zS => ∃ m, (s.1 = nI m ∧ m ≤ n) ∧ LG [101, 103] σ s.2 ∧ ∀ u, u < 1024 → bt (s.2.2.1 101) u = udI (bt (σ.2.1 (f + 1))) m u) (fun again s hI ih => ?_) N _ ⟨0, ⟨rfl, Nat.zero_le _⟩, l1.G (by simp), u1⟩
  obtain ⟨x3, τ⟩ := s
  obtain ⟨m, ⟨e, hm⟩, hl, hu⟩ := hI
  have e : x3 = nI m := e
  subst e
  have hl : LG [101, 103] σ τ := hl
  have hu : ∀ u, u < 1024 → bt (τ.2.1 101) u = udI (bt (σ.2.1 (f + 1))) m u := hu
  have R9 := hl.R hR
  have eF : τ.2.1 (f + 1) = σ.2.1 (f + 1) := hl.2.2 _ (by simp only [List.mem_cons, List.not_mem_nil, or_false]; omega)
  rw [F_X0_keepGreatest_9.eq_1]
  refine pt_if (fun q => ?_) (fun q => ?_)
  · rw [nle hn (by omega)] at q
    have e : n = m := by omega
    subst e
    refine pt_gR (v := 100) (R9 99 0 rfl) (pt_gC (pt_zb (v_lowerAll R9 k100.1 hn) (fun _ σ2 h2 => ?_)))
    obtain ⟨l2, u2⟩ := h2
    have l2 : LF 101 τ σ2 := l2
    have u2 : ∀ u, u < 1024 → bt (σ2.2.1 101) u = dnI (bt (τ.2.1 101)) n u := u2
    have R2 := l2.R R9
    refine pt_gR (v := 100) (R2 99 0 rfl) (pt_gC (pt_zb (v_takeAway R2 hF.1 k100.1) (fun _ σ3 h3 => pt_some ?_)))
    obtain ⟨l3, u3⟩ := h3
    have l3 : LF (f + 1) σ2 σ3 := l3
    refine ⟨⟨l3.1.trans (l2.1.trans hl.1), l3.2.1.trans (l2.2.1.trans hl.2.1), fun a ha => ?_⟩, fun u h => ?_⟩
    · simp only [List.mem_cons, List.not_mem_nil, or_false, not_or] at ha
      show σ3.2.1 a = _
      rw [l3.2.2 a ha.1, l2.2.2 a ha.2.1]
      exact hl.2.2 a (by simp only [List.mem_cons, List.not_mem_nil, or_false]; omega)
    · have u3 : bt (σ3.2.1 (f + 1)) u = (bt (σ2.2.1 (f + 1)) u && !bt (σ2.2.1 101) u) := u3 u h
      show bt (σ3.2.1 (f + 1)) u = _
      rw [u3, l2.2.2 (f + 1) (by omega), eF, u2 u h]
      congr 2
      have cg : ∀ k, k ≤ 10 → ∀ u, u < 1024 → dnI (bt (τ.2.1 101)) k u = dnI (udI (bt (σ.2.1 (f + 1))) n) k u := by
        intro k
        induction k with
        | zero => intro _ u hu'; exact hu u hu'
        | succ k ihk =>
          intro hk u hu'
          show (dnI _ k u || (!u.testBit k && dnI _ k (u ^^^ 2 ^ k))) = (dnI _ k u || (!u.testBit k && dnI _ k (u ^^^ 2 ^ k)))
          rw [ihk (by omega) u hu', ihk (by omega) _ (x_1024 hu' (by omega))]
      exact cg n hn u h
  · rw [nle hn (by omega)] at q
    refine pt_gR (v := 102) (R9 99 1 rfl) (pt_gC (pt_zb (v_copyFrom R9 k100.2.1 hF.1) (fun _ σ2 h2 => ?_)))
    obtain ⟨l2, u2⟩ := h2
    have l2 : LF 103 τ σ2 := l2
    have u2 : ∀ u, u < 1024 → bt (σ2.2.1 103) u = bt (τ.2.1 (f + 1)) u := u2
    have R2 := l2.R R9
    refine pt_gR (v := 102) (R2 99 1 rfl) (pt_gC (pt_zb (v_flip (k := m) R2 k100.2.1 (by omega)) (fun _ σ3 h3 => ?_)))
    obtain ⟨l3, u3⟩ := h3
    have l3 : LF 103 σ2 σ3 := l3
    have u3 : ∀ u, u < 1024 → bt (σ3.2.1 103) u = bt (σ2.2.1 103) (u ^^^ 2 ^ m) := u3
    have R3 := l3.R R2
    refine pt_gR (v := 102) (R3 99 1 rfl) (pt_gC (pt_zb (v_keepWithout (k := m) R3 k100.2.1 (by omega)) (fun _ σ4 h4 => ?_)))
    obtain ⟨l4, u4⟩ := h4
    have l4 : LF 103 σ3 σ4 := l4
    have u4 : ∀ u, u < 1024 → bt (σ4.2.1 103) u = (bt (σ3.2.1 103) u && !u.testBit m) := u4
    have R4 := l4.R R3
    refine pt_gR (v := 100) (R4 99 0 rfl) (pt_gR (v := 102) (R4 99 1 rfl) (pt_gC (pt_zb (v_join R4 k100.1 k100.2.1) (fun _ σ5 h5 => ?_))))
    obtain ⟨l5, u5⟩ := h5
    have l5 : LF 101 σ4 σ5 := l5
    have u5 : ∀ u, u < 1024 → bt (σ5.2.1 101) u = (bt (σ4.2.1 101) u || bt (σ4.2.1 103) u) := u5
    rw [nI_s1 (by omega)]
    refine ih (nI (m + 1), σ5) ⟨m + 1, ⟨rfl, by omega⟩, (((hl.tr (l2.G (by simp))).tr (l3.G (by simp))).tr (l4.G (by simp))).tr (l5.G (by simp)), fun u h => ?_⟩
    show bt (σ5.2.1 101) u = _
    have hx := x_1024 (k := m) h (by omega)
    rw [u5 u h, u4 u h, u3 u h, u2 _ hx, l4.2.2 101 (by decide), l3.2.2 101 (by decide), l2.2.2 101 (by decide), hu u h, eF]
    rfl
end ALG

theorem swp {σ τ ρ : zS} {i k : Nat} {a b : Int32} (e1 : τ = zI σ 235 (upd (σ.1 235) i b)) (e2 : ρ = zI τ 235 (upd (τ.1 235) k a)) (ha : a = σ.1 235 i) (hb : b = σ.1 235 k) : (ρ.1 235 i = σ.1 235 k ∧ ρ.1 235 k = σ.1 235 i) ∧ ∀ j, j ≠ i → j ≠ k → ρ.1 235 j = σ.1 235 j := by
  refine ⟨⟨?_, by rw [zI_atI e2, ha]⟩, fun j h1 h2 => by rw [zI_atN e2 h2, zI_atN e1 h1]⟩
  by_cases q : i = k
  · subst q; rw [zI_atI e2, ha]
  · rw [zI_atN e2 q, zI_atI e1, hb]
/-- the first n are digits, no two alike -/
def DI (g : Nat → Int32) (n : Nat) : Prop := (∀ a, a < n → 0 ≤ (g a).toInt ∧ (g a).toInt ≤ 9) ∧ ∀ a b, a < n → b < n → g a = g b → a = b
theorem DI_sw {g g' : Nat → Int32} {n i k : Nat} (h : (g' i = g k ∧ g' k = g i) ∧ ∀ j, j ≠ i → j ≠ k → g' j = g j) (hi : i < n) (hk : k < n) (hD : DI g n) : DI g' n := by
  have m : ∀ a, a < n → ∃ b, b < n ∧ g' a = g b ∧ (b = if a = i then k else if a = k then i else a) := by
    intro a ha
    by_cases q : a = i
    · exact ⟨k, hk, by rw [q]; exact h.1.1, by rw [if_pos q]⟩
    · by_cases r : a = k
      · exact ⟨i, hi, by rw [r]; exact h.1.2, by rw [if_neg q, if_pos r]⟩
      · exact ⟨a, ha, h.2 a q r, by rw [if_neg q, if_neg r]⟩
  refine ⟨fun a ha => ?_, fun a b ha hb e => ?_⟩
  · obtain ⟨c, hc, e, _⟩ := m a ha
    rw [e]; exact hD.1 c hc
  · obtain ⟨c, hc, e1, f1⟩ := m a ha
    obtain ⟨d, hd, e2, f2⟩ := m b hb
    have := hD.2 c d hc hd (by rw [← e1, ← e2]; exact e)
    subst this
    rw [f1] at f2
    split at f2 <;> split at f2 <;> (try split at f2) <;> (try split at f2) <;> omega
theorem DI_id {g : Nat → Int32} {n : Nat} (hn : n ≤ 10) (h : ∀ j : Nat, (j : Int) < 10 → g j = nI j) : DI g n := by
  refine ⟨fun a ha => ?_, fun a b ha hb e => ?_⟩
  · rw [h a (by omega), nI_toInt (by omega)]; omega
  · rw [h a (by omega), h b (by omega)] at e
    have := congrArg Int32.toInt e
    rw [nI_toInt (by omega), nI_toInt (by omega)] at this
    omega
def dig (g : Nat → Int32) : Nat → Nat
  | 0 => 0
  | n + 1 => dig g n * 10 + (g n).toInt.toNat
theorem dig_lt {g : Nat → Int32} : ∀ {n : Nat}, (∀ a, a < n → 0 ≤ (g a).toInt ∧ (g a).toInt ≤ 9) → dig g n < 10 ^ n
  | 0, _ => Nat.one_pos
  | n + 1, h => by
    have := dig_lt (n := n) (fun a ha => h a (by omega))
    have := h n (by omega)
    rw [Nat.pow_succ]
    show dig g n * 10 + (g n).toInt.toNat < _
    omega
theorem dig_eq {g g' : Nat → Int32} : ∀ {n : Nat}, (∀ a, a < n → g' a = g a) → dig g' n = dig g n
  | 0, _ => rfl
  | n + 1, h => by
    show dig g' n * 10 + (g' n).toInt.toNat = dig g n * 10 + (g n).toInt.toNat
    rw [dig_eq (fun a ha => h a (by omega)), h n (by omega)]
theorem dig_inc {g g' : Nat → Int32} {i : Nat} (he : ∀ j, j < i → g' j = g j) (h0 : 0 ≤ (g i).toInt) (hi : (g i).toInt < (g' i).toInt) : ∀ {n : Nat}, i < n → (∀ a, a < n → (g a).toInt ≤ 9) → dig g n < dig g' n
  | 0, h, _ => absurd h (by omega)
  | n + 1, h, hd => by
    show dig g n * 10 + (g n).toInt.toNat < dig g' n * 10 + (g' n).toInt.toNat
    by_cases q : i = n
    · subst q
      rw [dig_eq he]
      omega
    · have := dig_inc he h0 hi (n := n) (by omega) (fun a ha => hd a (by omega))
      have := hd n (by omega)
      omega
theorem tm0 {x : Int32} (h0 : -8 ≤ x.toInt) (h1 : x.toInt ≤ 10) : (x + (-1)).toInt = x.toInt - 1 := by
  rw [ti_add, show (-1 : Int32).toInt = -1 by decide]; omega
theorem tmd {x : Int32} {y : Int} (h0 : 0 ≤ x.toInt) (h1 : x.toInt ≤ y) (h2 : y ≤ 10) : (-2 ≤ (x + (-1)).toInt ∧ (x + (-1)).toInt ≤ y) ∧ ((x + (-1)).toInt + 2).toNat < (x.toInt + 2).toNat := by
  have k := tm0 (x := x) (by omega) (by omega)
  rw [k]; clear k; omega
theorem tmk {x : Int32} {y z : Int} (h0 : 0 ≤ z) (h3 : z < x.toInt) (h4 : x.toInt ≠ z + 1) (h1 : x.toInt ≤ y) (h2 : y ≤ 10) : (z < (x + (-1)).toInt ∧ (x + (-1)).toInt ≤ y) ∧ (x + (-1)).toInt.toNat < x.toInt.toNat := by
  have k := tm0 (x := x) (by omega) (by omega)
  rw [k]; clear k; omega
theorem tm3 {a b : Int32} {y z : Int} (h0 : 0 ≤ z) (h1 : z < a.toInt) (h2 : a.toInt < b.toInt) (h3 : b.toInt ≤ y) (h4 : y ≤ 10) : ((z < (a + 1).toInt ∧ (a + 1).toInt ≤ 12) ∧ -1 ≤ (b + (-1)).toInt ∧ (b + (-1)).toInt ≤ y) ∧ ((b + (-1)).toInt - (a + 1).toInt).toNat < (b.toInt - a.toInt).toNat := by
  have k := tm0 (x := b) (by omega) (by omega)
  have l : (a + 1).toInt = a.toInt + 1 := by rw [ti_add]; simp only [Int32.reduceToInt]; omega
  rw [k, l]; clear k l; omega
theorem fb_mu {g g' : Nat → Int32} {n : Nat} {m m' : Int32} (hm : ¬ m = 0) (hn : n ≤ 6) (hD : DI g n) (hD' : DI g' n) (h : ¬ m' = 0 → ∃ i : Nat, i < n ∧ (∀ j, j < i → g' j = g j) ∧ (g i).toInt < (g' i).toInt) : (if m' = 0 then 0 else 1 + (1000000 - dig g' n)) < (if m = 0 then 0 else 1 + (1000000 - dig g n)) := by
  rw [if_neg hm]
  by_cases q : m' = 0
  · rw [if_pos q]; omega
  · rw [if_neg q]
    obtain ⟨i, hi, he, hl⟩ := h q
    have a := dig_inc he (hD.1 i hi).1 hl hi (fun a ha => (hD.1 a ha).2)
    have b := dig_lt hD'.1
    have c : 10 ^ n ≤ 10 ^ 6 := Nat.pow_le_pow_right (by decide) hn
    omega

set_option maxHeartbeats 4000000 in
set_option maxRecDepth 100000 in
theorem s_X12_trades {N : Nat} (hN : 1048576 ≤ N) {x1 : Int32} {x2 : Int32} {σ0 : zS}  (hR : RF σ0.2.2) (hx : 0 ≤ x1.toInt ∧ x1.toInt ≤ 9) (hy : 0 ≤ x2.toInt ∧ x2.toInt ≤ 9) : Ok (f_X12_trades N 218 x1 x2 σ0) (fun r => Tr [235] σ0 r.2 ∧ ((r.2.1 235 x1.toNatClampNeg = σ0.1 235 x2.toNatClampNeg ∧ r.2.1 235 x2.toNatClampNeg = σ0.1 235 x1.toNatClampNeg) ∧ ∀ j, j ≠ x1.toNatClampNeg → j ≠ x2.toNatClampNeg → r.2.1 235 j = σ0.1 235 j)) := by
  have hT : Tr [235] σ0 σ0 := Tr.rf
  rw [f_X12_trades.eq_1]
  refine ok_gR (v := 235) hT rfl (hR 218 30 rfl) ?_
  refine ok_aIn rfl (by first | omega | decide | (simp only [Int32.le_iff_toInt_le, Int32.lt_iff_toInt_lt, ti_add, ti_sub, ti_mul, Int32.reduceToInt] at *; omega)) (by first | omega | decide | (simp only [Int32.le_iff_toInt_le, Int32.lt_iff_toInt_lt, ti_add, ti_sub, ti_mul, Int32.reduceToInt] at *; omega)) (fun v2 ev2 => ?_)
  have w5q := ev2
  refine ok_gR (v := 235) hT rfl (hR 218 30 rfl) ?_
  refine ok_gR (v := 235) hT rfl (hR 218 30 rfl) ?_
  refine ok_aIn rfl (by first | omega | decide | (simp only [Int32.le_iff_toInt_le, Int32.lt_iff_toInt_lt, ti_add, ti_sub, ti_mul, Int32.reduceToInt] at *; omega)) (by first | omega | decide | (simp only [Int32.le_iff_toInt_le, Int32.lt_iff_toInt_lt, ti_add, ti_sub, ti_mul, Int32.reduceToInt] at *; omega)) (fun v5 ev5 => ?_)
  have w17q := ev5
  refine ok_s14 hT rfl (by decide) (by first | omega | decide | (simp only [Int32.le_iff_toInt_le, Int32.lt_iff_toInt_lt, ti_add, ti_sub, ti_mul, Int32.reduceToInt] at *; omega)) (by first | omega | decide | (simp only [Int32.le_iff_toInt_le, Int32.lt_iff_toInt_lt, ti_add, ti_sub, ti_mul, Int32.reduceToInt] at *; omega)) (fun σ6 eσ6 hOσ6 hT => ?_)
  have e18 := eσ6
  refine ok_gR (v := 235) hT rfl (hR 218 30 rfl) ?_
  refine ok_s14 hT rfl (by decide) (by first | omega | decide | (simp only [Int32.le_iff_toInt_le, Int32.lt_iff_toInt_lt, ti_add, ti_sub, ti_mul, Int32.reduceToInt] at *; omega)) (by first | omega | decide | (simp only [Int32.le_iff_toInt_le, Int32.lt_iff_toInt_lt, ti_add, ti_sub, ti_mul, Int32.reduceToInt] at *; omega)) (fun σ8 eσ8 hOσ8 hT => ?_)
  have k25 := swp e18 eσ8 w5q w17q
  exact ok_some ⟨hT, (show (σ8.1 235 x1.toNatClampNeg = σ0.1 235 x2.toNatClampNeg ∧ σ8.1 235 x2.toNatClampNeg = σ0.1 235 x1.toNatClampNeg) ∧ ∀ j, j ≠ x1.toNatClampNeg → j ≠ x2.toNatClampNeg → σ8.1 235 j = σ0.1 235 j from by exact k25)⟩

set_option maxHeartbeats 4000000 in
set_option maxRecDepth 100000 in
theorem s_X12_nextOrder {N : Nat} (hN : 1048576 ≤ N) {x1 : Int32} {σ0 : zS}  (hR : RF σ0.2.2) (hn1 : 0 ≤ x1.toInt ∧ x1.toInt ≤ 6) (hD : DI (σ0.1 235) x1.toInt.toNat) : Ok (f_X12_nextOrder N 218 x1 σ0) (fun r => Tr [235] σ0 r.2 ∧ ((r.1 = 0 ∨ r.1 = 1) ∧ DI (r.2.1 235) x1.toInt.toNat ∧ (¬ r.1 = 0 → ∃ i : Nat, i < x1.toInt.toNat ∧ (∀ j, j < i → r.2.1 235 j = σ0.1 235 j) ∧ (σ0.1 235 i).toInt < (r.2.1 235 i).toInt))) := by
  have hT : Tr [235] σ0 σ0 := Tr.rf
  have s2 : (x1 - 2).toInt = x1.toInt - 2 := by rw [ti_sub]; simp only [Int32.reduceToInt]; omega
  have s1 : (x1 - 1).toInt = x1.toInt - 1 := by rw [ti_sub]; simp only [Int32.reduceToInt]; omega
  rw [f_X12_nextOrder.eq_1]
  refine ok_lp (fun t : Int32 × zS => Tr [235] σ0 (t.2) ∧ (-2 ≤ (t.1).toInt ∧ (t.1).toInt ≤ x1.toInt - 2) ∧ ((t.2).1 235 = σ0.1 235)) (fun t : Int32 × zS => ((t.1).toInt + 2).toNat) (fun again1 t hI ih4_1 => ?_) N _ (show Tr [235] σ0 σ0 ∧ (-2 ≤ (x1 - 2).toInt ∧ (x1 - 2).toInt ≤ x1.toInt - 2) ∧ (σ0.1 235 = σ0.1 235) from ⟨hT, (by rw [s2]; omega), rfl⟩) (show ((x1 - 2).toInt + 2).toNat < N from (by rw [s2]; omega))
  obtain ⟨x2_1, σ1⟩ := t
  have hI : Tr [235] σ0 σ1 ∧ (-2 ≤ x2_1.toInt ∧ x2_1.toInt ≤ x1.toInt - 2) ∧ (σ1.1 235 = σ0.1 235) := hI
  obtain ⟨hT, hI1, r235_σ1⟩ := hI
  rw [F_X12_nextOrder_4.eq_1]
  have h4 := hI1
  refine ok_if (fun hc2 => ?_) (fun hc2 => ?_)
  · have n5 := hc2
    rw [Int32.lt_iff_toInt_lt] at n5
    simp only [Int32.reduceToInt] at n5
    rw [J_X12_nextOrder_31.eq_1]
    refine ok_if (fun hc3 => ?_) (fun hc3 => ?_)
    · have n32 := hc3
      rw [Int32.le_iff_toInt_le] at n32
      simp only [Int32.reduceToInt] at n32
      have k32 : (σ0.1 235 x2_1.toInt.toNat).toInt ≤ (σ0.1 235 (x2_1.toInt.toNat + 1)).toInt := by first | exact k22 | (exfalso; omega)
      have l32 : (σ0.1 235 x2_1.toInt.toNat).toInt < (σ0.1 235 (x2_1.toInt.toNat + 1)).toInt := by rcases Int.lt_or_eq_of_le k32 with q | q; exact q; exact absurd (hD.2 _ _ (by omega) (by omega) (Int32.toInt_inj.mp q)) (by omega)
      refine ok_lp (fun t : Int32 × zS => Tr [235] σ0 (t.2) ∧ (x2_1.toInt < (t.1).toInt ∧ (t.1).toInt ≤ x1.toInt - 1) ∧ ((t.2).1 235 = σ0.1 235)) (fun t : Int32 × zS => (t.1).toInt.toNat) (fun again4 t hI ih41_4 => ?_) N _ (show Tr [235] σ0 σ1 ∧ (x2_1.toInt < (x1 - 1).toInt ∧ (x1 - 1).toInt ≤ x1.toInt - 1) ∧ (σ1.1 235 = σ0.1 235) from ⟨hT, (by rw [s1]; omega), r235_σ1⟩) (show (x1 - 1).toInt.toNat < N from (by rw [s1]; omega))
      obtain ⟨x3_4, σ4⟩ := t
      have hI : Tr [235] σ0 σ4 ∧ (x2_1.toInt < x3_4.toInt ∧ x3_4.toInt ≤ x1.toInt - 1) ∧ (σ4.1 235 = σ0.1 235) := hI
      obtain ⟨hT, hI4, r235_σ4⟩ := hI
      rw [F_X12_nextOrder_41.eq_1]
      have h41 := hI4
      refine ok_gR (v := 235) hT rfl (hR 218 30 rfl) ?_
      refine ok_aIn rfl (by first | omega | decide | (simp only [Int32.le_iff_toInt_le, Int32.lt_iff_toInt_lt, ti_add, ti_sub, ti_mul, Int32.reduceToInt] at *; omega)) (by first | omega | decide | (simp only [Int32.le_iff_toInt_le, Int32.lt_iff_toInt_lt, ti_add, ti_sub, ti_mul, Int32.reduceToInt] at *; omega)) (fun v6 ev6 => ?_)
      have w46q : v6 = σ0.1 235 x3_4.toInt.toNat := by rw [ev6, r235_σ4]; rfl
      refine ok_gR (v := 235) hT rfl (hR 218 30 rfl) ?_
      refine ok_aIn rfl (by first | omega | decide | (simp only [Int32.le_iff_toInt_le, Int32.lt_iff_toInt_lt, ti_add, ti_sub, ti_mul, Int32.reduceToInt] at *; omega)) (by first | omega | decide | (simp only [Int32.le_iff_toInt_le, Int32.lt_iff_toInt_lt, ti_add, ti_sub, ti_mul, Int32.reduceToInt] at *; omega)) (fun v8 ev8 => ?_)
      have w52q : v8 = σ0.1 235 x2_1.toInt.toNat := by rw [ev8, r235_σ4]; rfl
      refine ok_if (fun hc9 => ?_) (fun hc9 => ?_)
      · have k53 := hc9
        rw [w52q, w46q, Int32.le_iff_toInt_le] at k53
        have l53 : (σ0.1 235 x2_1.toInt.toNat).toInt < (σ0.1 235 x3_4.toInt.toNat).toInt := by rcases Int.lt_or_eq_of_le k53 with q | q; exact q; exact absurd (hD.2 _ _ (by omega) (by omega) (Int32.toInt_inj.mp q)) (by omega)
        have s21 : (x2_1 + 1).toInt = x2_1.toInt + 1 := by rw [ti_add]; simp only [Int32.reduceToInt]; omega
        have R65 := r235_σ4
        refine ok_gC rfl ?_
        refine ok_zbT (Q := fun V σ => (σ.1 235 x2_1.toNatClampNeg = σ4.1 235 x3_4.toNatClampNeg ∧ σ.1 235 x3_4.toNatClampNeg = σ4.1 235 x2_1.toNatClampNeg) ∧ ∀ j, j ≠ x2_1.toNatClampNeg → j ≠ x3_4.toNatClampNeg → σ.1 235 j = σ4.1 235 j) hT (s_X12_trades hN (hR.tr hT) (by omega) (by omega)) (by decide) (fun v10 σ11 hOσ11 hT hqv10 => ?_)
        have hqv10 : (σ11.1 235 x2_1.toNatClampNeg = σ4.1 235 x3_4.toNatClampNeg ∧ σ11.1 235 x3_4.toNatClampNeg = σ4.1 235 x2_1.toNatClampNeg) ∧ ∀ j, j ≠ x2_1.toNatClampNeg → j ≠ x3_4.toNatClampNeg → σ11.1 235 j = σ4.1 235 j := hqv10
        have q65 := hqv10
        rw [R65] at q65
        have d65 := DI_sw (i := x2_1.toNatClampNeg) (k := x3_4.toNatClampNeg) q65 (by show x2_1.toInt.toNat < _; omega) (by show x3_4.toInt.toNat < _; omega) hD
        have b65 : ∀ j, j < x2_1.toInt.toNat → σ11.1 235 j = σ0.1 235 j := fun j hj => q65.2 j (by show j ≠ x2_1.toInt.toNat; omega) (by show j ≠ x3_4.toInt.toNat; omega)
        have u65 : (σ0.1 235 x2_1.toInt.toNat).toInt < (σ11.1 235 x2_1.toInt.toNat).toInt := by rw [show σ11.1 235 x2_1.toInt.toNat = σ0.1 235 x3_4.toInt.toNat from q65.1.1]; exact l53
        refine ok_lp (fun t : Int32 × Int32 × zS => Tr [235] σ0 (t.2.2) ∧ (((x2_1.toInt < (t.1).toInt ∧ (t.1).toInt ≤ 12) ∧ -1 ≤ (t.2.1).toInt ∧ (t.2.1).toInt ≤ x1.toInt - 1) ∧ DI ((t.2.2).1 235) x1.toInt.toNat ∧ (∀ j, j < x2_1.toInt.toNat → (t.2.2).1 235 j = σ0.1 235 j) ∧ (σ0.1 235 x2_1.toInt.toNat).toInt < ((t.2.2).1 235 x2_1.toInt.toNat).toInt)) (fun t : Int32 × Int32 × zS => ((t.2.1).toInt - (t.1).toInt).toNat) (fun again12 t hI ih78_12 => ?_) N _ (show Tr [235] σ0 σ11 ∧ (((x2_1.toInt < (x2_1 + 1).toInt ∧ (x2_1 + 1).toInt ≤ 12) ∧ -1 ≤ (x1 - 1).toInt ∧ (x1 - 1).toInt ≤ x1.toInt - 1) ∧ DI (σ11.1 235) x1.toInt.toNat ∧ (∀ j, j < x2_1.toInt.toNat → σ11.1 235 j = σ0.1 235 j) ∧ (σ0.1 235 x2_1.toInt.toNat).toInt < (σ11.1 235 x2_1.toInt.toNat).toInt) from ⟨hT, (by exact ⟨⟨by rw [s21]; omega, by rw [s1]; omega⟩, d65, b65, u65⟩)⟩) (show ((x1 - 1).toInt - (x2_1 + 1).toInt).toNat < N from (by rw [s1, s21]; omega))
        obtain ⟨x4_12, x5_12, σ12⟩ := t
        have hI : Tr [235] σ0 σ12 ∧ (((x2_1.toInt < x4_12.toInt ∧ x4_12.toInt ≤ 12) ∧ -1 ≤ x5_12.toInt ∧ x5_12.toInt ≤ x1.toInt - 1) ∧ DI (σ12.1 235) x1.toInt.toNat ∧ (∀ j, j < x2_1.toInt.toNat → σ12.1 235 j = σ0.1 235 j) ∧ (σ0.1 235 x2_1.toInt.toNat).toInt < (σ12.1 235 x2_1.toInt.toNat).toInt) := hI
        obtain ⟨hT, hI12⟩ := hI
        rw [F_X12_nextOrder_78.eq_1]
        have h78 := hI12.1
        have d78 := hI12.2.1
        have b78 := hI12.2.2.1
        have u78 := hI12.2.2.2
        refine ok_if (fun hc13 => ?_) (fun hc13 => ?_)
        · exact ok_rZ (Or.inr rfl) ⟨hT, (show ((1 : Int32) = 0 ∨ (1 : Int32) = 1) ∧ DI (σ12.1 235) x1.toInt.toNat ∧ (¬ (1 : Int32) = 0 → ∃ i : Nat, i < x1.toInt.toNat ∧ (∀ j, j < i → σ12.1 235 j = σ0.1 235 j) ∧ (σ0.1 235 i).toInt < (σ12.1 235 i).toInt) from by first | exact ⟨Or.inl rfl, by rw [rfl]; exact hD, fun h => absurd rfl h⟩ | exact ⟨Or.inr rfl, d78, fun _ => ⟨_, by omega, b78, u78⟩⟩)⟩
        · have n82 := hc13
          rw [Int32.le_iff_toInt_le] at n82
          refine ok_gC rfl ?_
          refine ok_zbT (Q := fun V σ => (σ.1 235 x4_12.toNatClampNeg = σ12.1 235 x5_12.toNatClampNeg ∧ σ.1 235 x5_12.toNatClampNeg = σ12.1 235 x4_12.toNatClampNeg) ∧ ∀ j, j ≠ x4_12.toNatClampNeg → j ≠ x5_12.toNatClampNeg → σ.1 235 j = σ12.1 235 j) hT (s_X12_trades hN (hR.tr hT) (by omega) (by omega)) (by decide) (fun v14 σ15 hOσ15 hT hqv14 => ?_)
          have hqv14 : (σ15.1 235 x4_12.toNatClampNeg = σ12.1 235 x5_12.toNatClampNeg ∧ σ15.1 235 x5_12.toNatClampNeg = σ12.1 235 x4_12.toNatClampNeg) ∧ ∀ j, j ≠ x4_12.toNatClampNeg → j ≠ x5_12.toNatClampNeg → σ15.1 235 j = σ12.1 235 j := hqv14
          have q90 := hqv14
          have d90 := DI_sw (i := x4_12.toNatClampNeg) (k := x5_12.toNatClampNeg) q90 (by show x4_12.toInt.toNat < _; omega) (by show x5_12.toInt.toNat < _; omega) d78
          have b90 : ∀ j, j < x2_1.toInt.toNat → σ15.1 235 j = σ0.1 235 j := fun j hj => (q90.2 j (by show j ≠ x4_12.toInt.toNat; omega) (by show j ≠ x5_12.toInt.toNat; omega)).trans (b78 j hj)
          have u90 : (σ0.1 235 x2_1.toInt.toNat).toInt < (σ15.1 235 x2_1.toInt.toNat).toInt := by rw [q90.2 x2_1.toInt.toNat (by show _ ≠ x4_12.toInt.toNat; omega) (by show _ ≠ x5_12.toInt.toNat; omega)]; exact u78
          have t90 := tm3 (a := x4_12) (b := x5_12) (y := x1.toInt - 1) (z := x2_1.toInt) (by omega) (by omega) (by omega) (by omega) (by omega)
          exact ih78_12 (x4_12 + 1, x5_12 + (-1), σ15) (show Tr [235] σ0 σ15 ∧ (((x2_1.toInt < (x4_12 + 1).toInt ∧ (x4_12 + 1).toInt ≤ 12) ∧ -1 ≤ (x5_12 + (-1)).toInt ∧ (x5_12 + (-1)).toInt ≤ x1.toInt - 1) ∧ DI (σ15.1 235) x1.toInt.toNat ∧ (∀ j, j < x2_1.toInt.toNat → σ15.1 235 j = σ0.1 235 j) ∧ (σ0.1 235 x2_1.toInt.toNat).toInt < (σ15.1 235 x2_1.toInt.toNat).toInt) from ⟨hT, (by exact ⟨t90.1, d90, b90, u90⟩)⟩) (show ((x5_12 + (-1)).toInt - (x4_12 + 1).toInt).toNat < (x5_12.toInt - x4_12.toInt).toNat from (by exact t90.2))
      · have k53 := hc9
        rw [w52q, w46q, Int32.le_iff_toInt_le] at k53
        have n53 : x3_4.toInt ≠ x2_1.toInt + 1 := by intro q; rw [show x3_4.toInt.toNat = x2_1.toInt.toNat + 1 by omega] at k53; omega
        exact ih41_4 (x3_4 + (-1), σ4) (show Tr [235] σ0 σ4 ∧ (x2_1.toInt < (x3_4 + (-1)).toInt ∧ (x3_4 + (-1)).toInt ≤ x1.toInt - 1) ∧ (σ4.1 235 = σ0.1 235) from ⟨hT, (by exact (tmk (by omega) h41.1 n53 h41.2 (by omega)).1), r235_σ4⟩) (show (x3_4 + (-1)).toInt.toNat < x3_4.toInt.toNat from (by exact (tmk (by omega) h41.1 n53 h41.2 (by omega)).2))
    · exact ok_rZ (Or.inl rfl) ⟨hT, (show ((0 : Int32) = 0 ∨ (0 : Int32) = 1) ∧ DI (σ1.1 235) x1.toInt.toNat ∧ (¬ (0 : Int32) = 0 → ∃ i : Nat, i < x1.toInt.toNat ∧ (∀ j, j < i → σ1.1 235 j = σ0.1 235 j) ∧ (σ0.1 235 i).toInt < (σ1.1 235 i).toInt) from by first | exact ⟨Or.inl rfl, by rw [r235_σ1]; exact hD, fun h => absurd rfl h⟩ | exact ⟨Or.inr rfl, d78, fun _ => ⟨_, by omega, b78, u78⟩⟩)⟩
  · have n5 := hc2
    rw [Int32.lt_iff_toInt_lt] at n5
    simp only [Int32.reduceToInt] at n5
    have s5 : (x2_1 + 1).toInt = x2_1.toInt + 1 := by rw [ti_add]; simp only [Int32.reduceToInt]; omega
    have i5 : (x2_1 + 1).toNatClampNeg = x2_1.toInt.toNat + 1 := by show (x2_1 + 1).toInt.toNat = _; rw [s5]; omega
    refine ok_gR (v := 235) hT rfl (hR 218 30 rfl) ?_
    refine ok_aIn rfl (by first | omega | decide | (simp only [Int32.le_iff_toInt_le, Int32.lt_iff_toInt_lt, ti_add, ti_sub, ti_mul, Int32.reduceToInt] at *; omega)) (by first | omega | decide | (simp only [Int32.le_iff_toInt_le, Int32.lt_iff_toInt_lt, ti_add, ti_sub, ti_mul, Int32.reduceToInt] at *; omega)) (fun v17 ev17 => ?_)
    have w13q : v17 = σ0.1 235 x2_1.toInt.toNat := by rw [ev17, r235_σ1]; rfl
    refine ok_gR (v := 235) hT rfl (hR 218 30 rfl) ?_
    refine ok_aIn rfl (by rw [s5]; omega) (by rw [s5]; omega) (fun v19 ev19 => ?_)
    have w21q : v19 = σ0.1 235 (x2_1.toInt.toNat + 1) := by rw [ev19, r235_σ1, i5]
    refine ok_if (fun hc20 => ?_) (fun hc20 => ?_)
    · have k22 := hc20
      rw [w13q, w21q, Int32.le_iff_toInt_le] at k22
      rw [J_X12_nextOrder_31.eq_1]
      refine ok_if (fun hc21 => ?_) (fun hc21 => ?_)
      · have n32 := hc21
        rw [Int32.le_iff_toInt_le] at n32
        simp only [Int32.reduceToInt] at n32
        have k32 : (σ0.1 235 x2_1.toInt.toNat).toInt ≤ (σ0.1 235 (x2_1.toInt.toNat + 1)).toInt := by first | exact k22 | (exfalso; omega)
        have l32 : (σ0.1 235 x2_1.toInt.toNat).toInt < (σ0.1 235 (x2_1.toInt.toNat + 1)).toInt := by rcases Int.lt_or_eq_of_le k32 with q | q; exact q; exact absurd (hD.2 _ _ (by omega) (by omega) (Int32.toInt_inj.mp q)) (by omega)
        refine ok_lp (fun t : Int32 × zS => Tr [235] σ0 (t.2) ∧ (x2_1.toInt < (t.1).toInt ∧ (t.1).toInt ≤ x1.toInt - 1) ∧ ((t.2).1 235 = σ0.1 235)) (fun t : Int32 × zS => (t.1).toInt.toNat) (fun again22 t hI ih41_22 => ?_) N _ (show Tr [235] σ0 σ1 ∧ (x2_1.toInt < (x1 - 1).toInt ∧ (x1 - 1).toInt ≤ x1.toInt - 1) ∧ (σ1.1 235 = σ0.1 235) from ⟨hT, (by rw [s1]; omega), r235_σ1⟩) (show (x1 - 1).toInt.toNat < N from (by rw [s1]; omega))
        obtain ⟨x3_22, σ22⟩ := t
        have hI : Tr [235] σ0 σ22 ∧ (x2_1.toInt < x3_22.toInt ∧ x3_22.toInt ≤ x1.toInt - 1) ∧ (σ22.1 235 = σ0.1 235) := hI
        obtain ⟨hT, hI22, r235_σ22⟩ := hI
        rw [F_X12_nextOrder_41.eq_1]
        have h41 := hI22
        refine ok_gR (v := 235) hT rfl (hR 218 30 rfl) ?_
        refine ok_aIn rfl (by first | omega | decide | (simp only [Int32.le_iff_toInt_le, Int32.lt_iff_toInt_lt, ti_add, ti_sub, ti_mul, Int32.reduceToInt] at *; omega)) (by first | omega | decide | (simp only [Int32.le_iff_toInt_le, Int32.lt_iff_toInt_lt, ti_add, ti_sub, ti_mul, Int32.reduceToInt] at *; omega)) (fun v24 ev24 => ?_)
        have w46q : v24 = σ0.1 235 x3_22.toInt.toNat := by rw [ev24, r235_σ22]; rfl
        refine ok_gR (v := 235) hT rfl (hR 218 30 rfl) ?_
        refine ok_aIn rfl (by first | omega | decide | (simp only [Int32.le_iff_toInt_le, Int32.lt_iff_toInt_lt, ti_add, ti_sub, ti_mul, Int32.reduceToInt] at *; omega)) (by first | omega | decide | (simp only [Int32.le_iff_toInt_le, Int32.lt_iff_toInt_lt, ti_add, ti_sub, ti_mul, Int32.reduceToInt] at *; omega)) (fun v26 ev26 => ?_)
        have w52q : v26 = σ0.1 235 x2_1.toInt.toNat := by rw [ev26, r235_σ22]; rfl
        refine ok_if (fun hc27 => ?_) (fun hc27 => ?_)
        · have k53 := hc27
          rw [w52q, w46q, Int32.le_iff_toInt_le] at k53
          have l53 : (σ0.1 235 x2_1.toInt.toNat).toInt < (σ0.1 235 x3_22.toInt.toNat).toInt := by rcases Int.lt_or_eq_of_le k53 with q | q; exact q; exact absurd (hD.2 _ _ (by omega) (by omega) (Int32.toInt_inj.mp q)) (by omega)
          have s21 : (x2_1 + 1).toInt = x2_1.toInt + 1 := by rw [ti_add]; simp only [Int32.reduceToInt]; omega
          have R65 := r235_σ22
          refine ok_gC rfl ?_
          refine ok_zbT (Q := fun V σ => (σ.1 235 x2_1.toNatClampNeg = σ22.1 235 x3_22.toNatClampNeg ∧ σ.1 235 x3_22.toNatClampNeg = σ22.1 235 x2_1.toNatClampNeg) ∧ ∀ j, j ≠ x2_1.toNatClampNeg → j ≠ x3_22.toNatClampNeg → σ.1 235 j = σ22.1 235 j) hT (s_X12_trades hN (hR.tr hT) (by omega) (by omega)) (by decide) (fun v28 σ29 hOσ29 hT hqv28 => ?_)
          have hqv28 : (σ29.1 235 x2_1.toNatClampNeg = σ22.1 235 x3_22.toNatClampNeg ∧ σ29.1 235 x3_22.toNatClampNeg = σ22.1 235 x2_1.toNatClampNeg) ∧ ∀ j, j ≠ x2_1.toNatClampNeg → j ≠ x3_22.toNatClampNeg → σ29.1 235 j = σ22.1 235 j := hqv28
          have q65 := hqv28
          rw [R65] at q65
          have d65 := DI_sw (i := x2_1.toNatClampNeg) (k := x3_22.toNatClampNeg) q65 (by show x2_1.toInt.toNat < _; omega) (by show x3_22.toInt.toNat < _; omega) hD
          have b65 : ∀ j, j < x2_1.toInt.toNat → σ29.1 235 j = σ0.1 235 j := fun j hj => q65.2 j (by show j ≠ x2_1.toInt.toNat; omega) (by show j ≠ x3_22.toInt.toNat; omega)
          have u65 : (σ0.1 235 x2_1.toInt.toNat).toInt < (σ29.1 235 x2_1.toInt.toNat).toInt := by rw [show σ29.1 235 x2_1.toInt.toNat = σ0.1 235 x3_22.toInt.toNat from q65.1.1]; exact l53
          refine ok_lp (fun t : Int32 × Int32 × zS => Tr [235] σ0 (t.2.2) ∧ (((x2_1.toInt < (t.1).toInt ∧ (t.1).toInt ≤ 12) ∧ -1 ≤ (t.2.1).toInt ∧ (t.2.1).toInt ≤ x1.toInt - 1) ∧ DI ((t.2.2).1 235) x1.toInt.toNat ∧ (∀ j, j < x2_1.toInt.toNat → (t.2.2).1 235 j = σ0.1 235 j) ∧ (σ0.1 235 x2_1.toInt.toNat).toInt < ((t.2.2).1 235 x2_1.toInt.toNat).toInt)) (fun t : Int32 × Int32 × zS => ((t.2.1).toInt - (t.1).toInt).toNat) (fun again30 t hI ih78_30 => ?_) N _ (show Tr [235] σ0 σ29 ∧ (((x2_1.toInt < (x2_1 + 1).toInt ∧ (x2_1 + 1).toInt ≤ 12) ∧ -1 ≤ (x1 - 1).toInt ∧ (x1 - 1).toInt ≤ x1.toInt - 1) ∧ DI (σ29.1 235) x1.toInt.toNat ∧ (∀ j, j < x2_1.toInt.toNat → σ29.1 235 j = σ0.1 235 j) ∧ (σ0.1 235 x2_1.toInt.toNat).toInt < (σ29.1 235 x2_1.toInt.toNat).toInt) from ⟨hT, (by exact ⟨⟨by rw [s21]; omega, by rw [s1]; omega⟩, d65, b65, u65⟩)⟩) (show ((x1 - 1).toInt - (x2_1 + 1).toInt).toNat < N from (by rw [s1, s21]; omega))
          obtain ⟨x4_30, x5_30, σ30⟩ := t
          have hI : Tr [235] σ0 σ30 ∧ (((x2_1.toInt < x4_30.toInt ∧ x4_30.toInt ≤ 12) ∧ -1 ≤ x5_30.toInt ∧ x5_30.toInt ≤ x1.toInt - 1) ∧ DI (σ30.1 235) x1.toInt.toNat ∧ (∀ j, j < x2_1.toInt.toNat → σ30.1 235 j = σ0.1 235 j) ∧ (σ0.1 235 x2_1.toInt.toNat).toInt < (σ30.1 235 x2_1.toInt.toNat).toInt) := hI
          obtain ⟨hT, hI30⟩ := hI
          rw [F_X12_nextOrder_78.eq_1]
          have h78 := hI30.1
          have d78 := hI30.2.1
          have b78 := hI30.2.2.1
          have u78 := hI30.2.2.2
          refine ok_if (fun hc31 => ?_) (fun hc31 => ?_)
          · exact ok_rZ (Or.inr rfl) ⟨hT, (show ((1 : Int32) = 0 ∨ (1 : Int32) = 1) ∧ DI (σ30.1 235) x1.toInt.toNat ∧ (¬ (1 : Int32) = 0 → ∃ i : Nat, i < x1.toInt.toNat ∧ (∀ j, j < i → σ30.1 235 j = σ0.1 235 j) ∧ (σ0.1 235 i).toInt < (σ30.1 235 i).toInt) from by first | exact ⟨Or.inl rfl, by rw [rfl]; exact hD, fun h => absurd rfl h⟩ | exact ⟨Or.inr rfl, d78, fun _ => ⟨_, by omega, b78, u78⟩⟩)⟩
          · have n82 := hc31
            rw [Int32.le_iff_toInt_le] at n82
            refine ok_gC rfl ?_
            refine ok_zbT (Q := fun V σ => (σ.1 235 x4_30.toNatClampNeg = σ30.1 235 x5_30.toNatClampNeg ∧ σ.1 235 x5_30.toNatClampNeg = σ30.1 235 x4_30.toNatClampNeg) ∧ ∀ j, j ≠ x4_30.toNatClampNeg → j ≠ x5_30.toNatClampNeg → σ.1 235 j = σ30.1 235 j) hT (s_X12_trades hN (hR.tr hT) (by omega) (by omega)) (by decide) (fun v32 σ33 hOσ33 hT hqv32 => ?_)
            have hqv32 : (σ33.1 235 x4_30.toNatClampNeg = σ30.1 235 x5_30.toNatClampNeg ∧ σ33.1 235 x5_30.toNatClampNeg = σ30.1 235 x4_30.toNatClampNeg) ∧ ∀ j, j ≠ x4_30.toNatClampNeg → j ≠ x5_30.toNatClampNeg → σ33.1 235 j = σ30.1 235 j := hqv32
            have q90 := hqv32
            have d90 := DI_sw (i := x4_30.toNatClampNeg) (k := x5_30.toNatClampNeg) q90 (by show x4_30.toInt.toNat < _; omega) (by show x5_30.toInt.toNat < _; omega) d78
            have b90 : ∀ j, j < x2_1.toInt.toNat → σ33.1 235 j = σ0.1 235 j := fun j hj => (q90.2 j (by show j ≠ x4_30.toInt.toNat; omega) (by show j ≠ x5_30.toInt.toNat; omega)).trans (b78 j hj)
            have u90 : (σ0.1 235 x2_1.toInt.toNat).toInt < (σ33.1 235 x2_1.toInt.toNat).toInt := by rw [q90.2 x2_1.toInt.toNat (by show _ ≠ x4_30.toInt.toNat; omega) (by show _ ≠ x5_30.toInt.toNat; omega)]; exact u78
            have t90 := tm3 (a := x4_30) (b := x5_30) (y := x1.toInt - 1) (z := x2_1.toInt) (by omega) (by omega) (by omega) (by omega) (by omega)
            exact ih78_30 (x4_30 + 1, x5_30 + (-1), σ33) (show Tr [235] σ0 σ33 ∧ (((x2_1.toInt < (x4_30 + 1).toInt ∧ (x4_30 + 1).toInt ≤ 12) ∧ -1 ≤ (x5_30 + (-1)).toInt ∧ (x5_30 + (-1)).toInt ≤ x1.toInt - 1) ∧ DI (σ33.1 235) x1.toInt.toNat ∧ (∀ j, j < x2_1.toInt.toNat → σ33.1 235 j = σ0.1 235 j) ∧ (σ0.1 235 x2_1.toInt.toNat).toInt < (σ33.1 235 x2_1.toInt.toNat).toInt) from ⟨hT, (by exact ⟨t90.1, d90, b90, u90⟩)⟩) (show ((x5_30 + (-1)).toInt - (x4_30 + 1).toInt).toNat < (x5_30.toInt - x4_30.toInt).toNat from (by exact t90.2))
        · have k53 := hc27
          rw [w52q, w46q, Int32.le_iff_toInt_le] at k53
          have n53 : x3_22.toInt ≠ x2_1.toInt + 1 := by intro q; rw [show x3_22.toInt.toNat = x2_1.toInt.toNat + 1 by omega] at k53; omega
          exact ih41_22 (x3_22 + (-1), σ22) (show Tr [235] σ0 σ22 ∧ (x2_1.toInt < (x3_22 + (-1)).toInt ∧ (x3_22 + (-1)).toInt ≤ x1.toInt - 1) ∧ (σ22.1 235 = σ0.1 235) from ⟨hT, (by exact (tmk (by omega) h41.1 n53 h41.2 (by omega)).1), r235_σ22⟩) (show (x3_22 + (-1)).toInt.toNat < x3_22.toInt.toNat from (by exact (tmk (by omega) h41.1 n53 h41.2 (by omega)).2))
      · exact ok_rZ (Or.inl rfl) ⟨hT, (show ((0 : Int32) = 0 ∨ (0 : Int32) = 1) ∧ DI (σ1.1 235) x1.toInt.toNat ∧ (¬ (0 : Int32) = 0 → ∃ i : Nat, i < x1.toInt.toNat ∧ (∀ j, j < i → σ1.1 235 j = σ0.1 235 j) ∧ (σ0.1 235 i).toInt < (σ1.1 235 i).toInt) from by first | exact ⟨Or.inl rfl, by rw [r235_σ1]; exact hD, fun h => absurd rfl h⟩ | exact ⟨Or.inr rfl, d78, fun _ => ⟨_, by omega, b78, u78⟩⟩)⟩
    · exact ih4_1 (x2_1 + (-1), σ1) (show Tr [235] σ0 σ1 ∧ (-2 ≤ (x2_1 + (-1)).toInt ∧ (x2_1 + (-1)).toInt ≤ x1.toInt - 2) ∧ (σ1.1 235 = σ0.1 235) from ⟨hT, (by exact (tmd (y := x1.toInt - 2) (by omega) (by omega) (by omega)).1), r235_σ1⟩) (show ((x2_1 + (-1)).toInt + 2).toNat < (x2_1.toInt + 2).toNat from (by exact (tmd (y := x1.toInt - 2) (by omega) (by omega) (by omega)).2))

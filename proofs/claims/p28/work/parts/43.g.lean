section Zq6_0
set_option maxHeartbeats 4000000 in
set_option maxRecDepth 100000 in
theorem s_X12_joins_220_220_227 {N : Nat} (hN : 1048576 ≤ N) {x2 : Int32} {x4 : Int32} {σ0 : zS}  (hR : RF σ0.2.2) (hB : ZB σ0.1) (ha : 0 ≤ (σ0.1 218 20).toInt ∧ (σ0.1 218 20).toInt ≤ 1024) (h2 : 0 ≤ x2.toInt ∧ x2.toInt ≤ 9216) (h4 : 0 ≤ x4.toInt ∧ x4.toInt ≤ 9216) : Ok (f_X12_joins N 218 220 x2 220 x4 227 σ0) (fun r => Tr [227] σ0 r.2 ∧ (ZB r.2.1)) := by
  have hT : Tr [227] σ0 σ0 := Tr.rf
  rw [f_X12_joins.eq_1]
  refine ok_lp (fun t : Int32 × zS => Tr [227] σ0 (t.2) ∧ (0 ≤ (t.1).toInt) ∧ (ZB (t.2).1)) (fun t : Int32 × zS => ((1024 : Int32).toInt - (t.1).toInt).toNat) (fun again1 t hI ih3_1 => ?_) N _ (show Tr [227] σ0 σ0 ∧ (0 ≤ (0 : Int32).toInt) ∧ (ZB σ0.1) from ⟨hT, (by first | omega | decide | (simp only [Int32.le_iff_toInt_le, Int32.lt_iff_toInt_lt, ti_add, ti_sub, ti_mul, Int32.reduceToInt] at *; omega)), hB⟩) (show ((1024 : Int32).toInt - (0 : Int32).toInt).toNat < N from (by first | omega | decide | (simp only [Int32.le_iff_toInt_le, Int32.lt_iff_toInt_lt, ti_add, ti_sub, ti_mul, Int32.reduceToInt] at *; omega)))
  obtain ⟨x6_1, σ1⟩ := t
  have hI : Tr [227] σ0 σ1 ∧ (0 ≤ x6_1.toInt) ∧ (ZB σ1.1) := hI
  obtain ⟨hT, hI1, hB⟩ := hI
  rw [F_X12_joins_3.eq_1]
  refine ok_if (fun hc2 => ?_) (fun hc2 => ?_)
  · refine ok_lp (fun t : Int32 × zS => Tr [227] σ0 (t.2) ∧ (0 ≤ (t.1).toInt) ∧ (ZB (t.2).1)) (fun t : Int32 × zS => (1024 - (t.1).toInt).toNat) (fun again3 t hI ih26_3 => ?_) N _ (show Tr [227] σ0 σ1 ∧ (0 ≤ (0 : Int32).toInt) ∧ (ZB σ1.1) from ⟨hT, (by first | omega | decide | (simp only [Int32.le_iff_toInt_le, Int32.lt_iff_toInt_lt, ti_add, ti_sub, ti_mul, Int32.reduceToInt] at *; omega)), hB⟩) (show (1024 - (0 : Int32).toInt).toNat < N from (by first | omega | decide | (simp only [Int32.le_iff_toInt_le, Int32.lt_iff_toInt_lt, ti_add, ti_sub, ti_mul, Int32.reduceToInt] at *; omega)))
    obtain ⟨x6_3, σ3⟩ := t
    have hI : Tr [227] σ0 σ3 ∧ (0 ≤ x6_3.toInt) ∧ (ZB σ3.1) := hI
    obtain ⟨hT, hI3, hB⟩ := hI
    rw [F_X12_joins_26.eq_1]
    refine ok_gI0 hT rfl (by decide) ?_
    refine ok_if (fun hc5 => ?_) (fun hc5 => ?_)
    · exact ok_some ⟨hT, (show ZB σ3.1 from by exact hB)⟩
    · refine ok_lp (fun t : Int32 × zS => Tr [227] σ0 (t.2) ∧ (0 ≤ (t.1).toInt) ∧ (ZB (t.2).1)) (fun t : Int32 × zS => (1024 - (t.1).toInt).toNat) (fun again6 t hI ih38_6 => ?_) N _ (show Tr [227] σ0 σ3 ∧ (0 ≤ (0 : Int32).toInt) ∧ (ZB σ3.1) from ⟨hT, (by first | omega | decide | (simp only [Int32.le_iff_toInt_le, Int32.lt_iff_toInt_lt, ti_add, ti_sub, ti_mul, Int32.reduceToInt] at *; omega)), hB⟩) (show (1024 - (0 : Int32).toInt).toNat < N from (by first | omega | decide | (simp only [Int32.le_iff_toInt_le, Int32.lt_iff_toInt_lt, ti_add, ti_sub, ti_mul, Int32.reduceToInt] at *; omega)))
      obtain ⟨x7_6, σ6⟩ := t
      have hI : Tr [227] σ0 σ6 ∧ (0 ≤ x7_6.toInt) ∧ (ZB σ6.1) := hI
      obtain ⟨hT, hI6, hB⟩ := hI
      rw [F_X12_joins_38.eq_1]
      refine ok_gI0 hT rfl (by decide) ?_
      refine ok_if (fun hc8 => ?_) (fun hc8 => ?_)
      · exact ih26_3 (x6_3 + 1, σ6) (show Tr [227] σ0 σ6 ∧ (0 ≤ (x6_3 + 1).toInt) ∧ (ZB σ6.1) from ⟨hT, (by first | omega | decide | (simp only [Int32.le_iff_toInt_le, Int32.lt_iff_toInt_lt, ti_add, ti_sub, ti_mul, Int32.reduceToInt] at *; omega)), hB⟩) (show (1024 - (x6_3 + 1).toInt).toNat < (1024 - x6_3.toInt).toNat from (by first | omega | decide | (simp only [Int32.le_iff_toInt_le, Int32.lt_iff_toInt_lt, ti_add, ti_sub, ti_mul, Int32.reduceToInt] at *; omega)))
      · refine ok_aIn rfl (by first | omega | decide | (simp only [Int32.le_iff_toInt_le, Int32.lt_iff_toInt_lt, ti_add, ti_sub, ti_mul, Int32.reduceToInt] at *; omega)) (by first | omega | decide | (simp only [Int32.le_iff_toInt_le, Int32.lt_iff_toInt_lt, ti_add, ti_sub, ti_mul, Int32.reduceToInt] at *; omega)) (fun v9 ev9 => ?_)
        have zv9 : v9 = 0 ∨ v9 = 1 := by rw [ev9]; exact hB 220 rfl _
        refine ok_if (fun hc10 => ?_) (fun hc10 => ?_)
        · exact ih26_3 (x6_3 + 1, σ6) (show Tr [227] σ0 σ6 ∧ (0 ≤ (x6_3 + 1).toInt) ∧ (ZB σ6.1) from ⟨hT, (by first | omega | decide | (simp only [Int32.le_iff_toInt_le, Int32.lt_iff_toInt_lt, ti_add, ti_sub, ti_mul, Int32.reduceToInt] at *; omega)), hB⟩) (show (1024 - (x6_3 + 1).toInt).toNat < (1024 - x6_3.toInt).toNat from (by first | omega | decide | (simp only [Int32.le_iff_toInt_le, Int32.lt_iff_toInt_lt, ti_add, ti_sub, ti_mul, Int32.reduceToInt] at *; omega)))
        · refine ok_aIn rfl (by first | omega | decide | (simp only [Int32.le_iff_toInt_le, Int32.lt_iff_toInt_lt, ti_add, ti_sub, ti_mul, Int32.reduceToInt] at *; omega)) (by first | omega | decide | (simp only [Int32.le_iff_toInt_le, Int32.lt_iff_toInt_lt, ti_add, ti_sub, ti_mul, Int32.reduceToInt] at *; omega)) (fun v11 ev11 => ?_)
          have zv11 : v11 = 0 ∨ v11 = 1 := by rw [ev11]; exact hB 220 rfl _
          refine ok_if (fun hc12 => ?_) (fun hc12 => ?_)
          · exact ih38_6 (x7_6 + 1, σ6) (show Tr [227] σ0 σ6 ∧ (0 ≤ (x7_6 + 1).toInt) ∧ (ZB σ6.1) from ⟨hT, (by first | omega | decide | (simp only [Int32.le_iff_toInt_le, Int32.lt_iff_toInt_lt, ti_add, ti_sub, ti_mul, Int32.reduceToInt] at *; omega)), hB⟩) (show (1024 - (x7_6 + 1).toInt).toNat < (1024 - x7_6.toInt).toNat from (by first | omega | decide | (simp only [Int32.le_iff_toInt_le, Int32.lt_iff_toInt_lt, ti_add, ti_sub, ti_mul, Int32.reduceToInt] at *; omega)))
          · have q8 := or10 (a := x6_3) (b := x7_6) (by first | omega | (simp only [Int32.le_iff_toInt_le, Int32.lt_iff_toInt_lt, ti_add, ti_sub, ti_mul, Int32.reduceToInt] at *; omega)) (by first | omega | (simp only [Int32.le_iff_toInt_le, Int32.lt_iff_toInt_lt, ti_add, ti_sub, ti_mul, Int32.reduceToInt] at *; omega)) (by first | omega | (simp only [Int32.le_iff_toInt_le, Int32.lt_iff_toInt_lt, ti_add, ti_sub, ti_mul, Int32.reduceToInt] at *; omega)) (by first | omega | (simp only [Int32.le_iff_toInt_le, Int32.lt_iff_toInt_lt, ti_add, ti_sub, ti_mul, Int32.reduceToInt] at *; omega))
            refine ok_s16 hT rfl (by decide) (by first | omega | decide | (simp only [Int32.le_iff_toInt_le, Int32.lt_iff_toInt_lt, ti_add, ti_sub, ti_mul, Int32.reduceToInt] at *; omega)) (by first | omega | decide | (simp only [Int32.le_iff_toInt_le, Int32.lt_iff_toInt_lt, ti_add, ti_sub, ti_mul, Int32.reduceToInt] at *; omega)) (fun σ13 eσ13 hOσ13 hT => ?_)
            have hB : ZB σ13.1 := ZB_s eσ13 hB
            exact ih38_6 (x7_6 + 1, σ13) (show Tr [227] σ0 σ13 ∧ (0 ≤ (x7_6 + 1).toInt) ∧ (ZB σ13.1) from ⟨hT, (by first | omega | decide | (simp only [Int32.le_iff_toInt_le, Int32.lt_iff_toInt_lt, ti_add, ti_sub, ti_mul, Int32.reduceToInt] at *; omega)), hB⟩) (show (1024 - (x7_6 + 1).toInt).toNat < (1024 - x7_6.toInt).toNat from (by first | omega | decide | (simp only [Int32.le_iff_toInt_le, Int32.lt_iff_toInt_lt, ti_add, ti_sub, ti_mul, Int32.reduceToInt] at *; omega)))
  · refine ok_s16 hT rfl (by decide) (by first | omega | decide | (simp only [Int32.le_iff_toInt_le, Int32.lt_iff_toInt_lt, ti_add, ti_sub, ti_mul, Int32.reduceToInt] at *; omega)) (by first | omega | decide | (simp only [Int32.le_iff_toInt_le, Int32.lt_iff_toInt_lt, ti_add, ti_sub, ti_mul, Int32.reduceToInt] at *; omega)) (fun σ14 eσ14 hOσ14 hT => ?_)
    have hB : ZB σ14.1 := ZB_s eσ14 hB
    exact ih3_1 (x6_1 + 1, σ14) (show Tr [227] σ0 σ14 ∧ (0 ≤ (x6_1 + 1).toInt) ∧ (ZB σ14.1) from ⟨hT, (by first | omega | decide | (simp only [Int32.le_iff_toInt_le, Int32.lt_iff_toInt_lt, ti_add, ti_sub, ti_mul, Int32.reduceToInt] at *; omega)), hB⟩) (show ((1024 : Int32).toInt - (x6_1 + 1).toInt).toNat < ((1024 : Int32).toInt - x6_1.toInt).toNat from (by first | omega | decide | (simp only [Int32.le_iff_toInt_le, Int32.lt_iff_toInt_lt, ti_add, ti_sub, ti_mul, Int32.reduceToInt] at *; omega)))

set_option maxHeartbeats 4000000 in
set_option maxRecDepth 100000 in
theorem s_X12_joins_220_228_229 {N : Nat} (hN : 1048576 ≤ N) {x2 : Int32} {x4 : Int32} {σ0 : zS}  (hR : RF σ0.2.2) (hB : ZB σ0.1) (ha : 0 ≤ (σ0.1 218 20).toInt ∧ (σ0.1 218 20).toInt ≤ 1024) (h2 : 0 ≤ x2.toInt ∧ x2.toInt ≤ 9216) (h4 : 0 ≤ x4.toInt ∧ x4.toInt ≤ 0) : Ok (f_X12_joins N 218 220 x2 228 x4 229 σ0) (fun r => Tr [229] σ0 r.2 ∧ (ZB r.2.1)) := by
  have hT : Tr [229] σ0 σ0 := Tr.rf
  rw [f_X12_joins.eq_1]
  refine ok_lp (fun t : Int32 × zS => Tr [229] σ0 (t.2) ∧ (0 ≤ (t.1).toInt) ∧ (ZB (t.2).1)) (fun t : Int32 × zS => ((1024 : Int32).toInt - (t.1).toInt).toNat) (fun again1 t hI ih3_1 => ?_) N _ (show Tr [229] σ0 σ0 ∧ (0 ≤ (0 : Int32).toInt) ∧ (ZB σ0.1) from ⟨hT, (by first | omega | decide | (simp only [Int32.le_iff_toInt_le, Int32.lt_iff_toInt_lt, ti_add, ti_sub, ti_mul, Int32.reduceToInt] at *; omega)), hB⟩) (show ((1024 : Int32).toInt - (0 : Int32).toInt).toNat < N from (by first | omega | decide | (simp only [Int32.le_iff_toInt_le, Int32.lt_iff_toInt_lt, ti_add, ti_sub, ti_mul, Int32.reduceToInt] at *; omega)))
  obtain ⟨x6_1, σ1⟩ := t
  have hI : Tr [229] σ0 σ1 ∧ (0 ≤ x6_1.toInt) ∧ (ZB σ1.1) := hI
  obtain ⟨hT, hI1, hB⟩ := hI
  rw [F_X12_joins_3.eq_1]
  refine ok_if (fun hc2 => ?_) (fun hc2 => ?_)
  · refine ok_lp (fun t : Int32 × zS => Tr [229] σ0 (t.2) ∧ (0 ≤ (t.1).toInt) ∧ (ZB (t.2).1)) (fun t : Int32 × zS => (1024 - (t.1).toInt).toNat) (fun again3 t hI ih26_3 => ?_) N _ (show Tr [229] σ0 σ1 ∧ (0 ≤ (0 : Int32).toInt) ∧ (ZB σ1.1) from ⟨hT, (by first | omega | decide | (simp only [Int32.le_iff_toInt_le, Int32.lt_iff_toInt_lt, ti_add, ti_sub, ti_mul, Int32.reduceToInt] at *; omega)), hB⟩) (show (1024 - (0 : Int32).toInt).toNat < N from (by first | omega | decide | (simp only [Int32.le_iff_toInt_le, Int32.lt_iff_toInt_lt, ti_add, ti_sub, ti_mul, Int32.reduceToInt] at *; omega)))
    obtain ⟨x6_3, σ3⟩ := t
    have hI : Tr [229] σ0 σ3 ∧ (0 ≤ x6_3.toInt) ∧ (ZB σ3.1) := hI
    obtain ⟨hT, hI3, hB⟩ := hI
    rw [F_X12_joins_26.eq_1]
    refine ok_gI0 hT rfl (by decide) ?_
    refine ok_if (fun hc5 => ?_) (fun hc5 => ?_)
    · exact ok_some ⟨hT, (show ZB σ3.1 from by exact hB)⟩
    · refine ok_lp (fun t : Int32 × zS => Tr [229] σ0 (t.2) ∧ (0 ≤ (t.1).toInt) ∧ (ZB (t.2).1)) (fun t : Int32 × zS => (1024 - (t.1).toInt).toNat) (fun again6 t hI ih38_6 => ?_) N _ (show Tr [229] σ0 σ3 ∧ (0 ≤ (0 : Int32).toInt) ∧ (ZB σ3.1) from ⟨hT, (by first | omega | decide | (simp only [Int32.le_iff_toInt_le, Int32.lt_iff_toInt_lt, ti_add, ti_sub, ti_mul, Int32.reduceToInt] at *; omega)), hB⟩) (show (1024 - (0 : Int32).toInt).toNat < N from (by first | omega | decide | (simp only [Int32.le_iff_toInt_le, Int32.lt_iff_toInt_lt, ti_add, ti_sub, ti_mul, Int32.reduceToInt] at *; omega)))
      obtain ⟨x7_6, σ6⟩ := t
      have hI : Tr [229] σ0 σ6 ∧ (0 ≤ x7_6.toInt) ∧ (ZB σ6.1) := hI
      obtain ⟨hT, hI6, hB⟩ := hI
      rw [F_X12_joins_38.eq_1]
      refine ok_gI0 hT rfl (by decide) ?_
      refine ok_if (fun hc8 => ?_) (fun hc8 => ?_)
      · exact ih26_3 (x6_3 + 1, σ6) (show Tr [229] σ0 σ6 ∧ (0 ≤ (x6_3 + 1).toInt) ∧ (ZB σ6.1) from ⟨hT, (by first | omega | decide | (simp only [Int32.le_iff_toInt_le, Int32.lt_iff_toInt_lt, ti_add, ti_sub, ti_mul, Int32.reduceToInt] at *; omega)), hB⟩) (show (1024 - (x6_3 + 1).toInt).toNat < (1024 - x6_3.toInt).toNat from (by first | omega | decide | (simp only [Int32.le_iff_toInt_le, Int32.lt_iff_toInt_lt, ti_add, ti_sub, ti_mul, Int32.reduceToInt] at *; omega)))
      · refine ok_aIn rfl (by first | omega | decide | (simp only [Int32.le_iff_toInt_le, Int32.lt_iff_toInt_lt, ti_add, ti_sub, ti_mul, Int32.reduceToInt] at *; omega)) (by first | omega | decide | (simp only [Int32.le_iff_toInt_le, Int32.lt_iff_toInt_lt, ti_add, ti_sub, ti_mul, Int32.reduceToInt] at *; omega)) (fun v9 ev9 => ?_)
        have zv9 : v9 = 0 ∨ v9 = 1 := by rw [ev9]; exact hB 220 rfl _
        refine ok_if (fun hc10 => ?_) (fun hc10 => ?_)
        · exact ih26_3 (x6_3 + 1, σ6) (show Tr [229] σ0 σ6 ∧ (0 ≤ (x6_3 + 1).toInt) ∧ (ZB σ6.1) from ⟨hT, (by first | omega | decide | (simp only [Int32.le_iff_toInt_le, Int32.lt_iff_toInt_lt, ti_add, ti_sub, ti_mul, Int32.reduceToInt] at *; omega)), hB⟩) (show (1024 - (x6_3 + 1).toInt).toNat < (1024 - x6_3.toInt).toNat from (by first | omega | decide | (simp only [Int32.le_iff_toInt_le, Int32.lt_iff_toInt_lt, ti_add, ti_sub, ti_mul, Int32.reduceToInt] at *; omega)))
        · refine ok_aIn rfl (by first | omega | decide | (simp only [Int32.le_iff_toInt_le, Int32.lt_iff_toInt_lt, ti_add, ti_sub, ti_mul, Int32.reduceToInt] at *; omega)) (by first | omega | decide | (simp only [Int32.le_iff_toInt_le, Int32.lt_iff_toInt_lt, ti_add, ti_sub, ti_mul, Int32.reduceToInt] at *; omega)) (fun v11 ev11 => ?_)
          have zv11 : v11 = 0 ∨ v11 = 1 := by rw [ev11]; exact hB 228 rfl _
          refine ok_if (fun hc12 => ?_) (fun hc12 => ?_)
          · exact ih38_6 (x7_6 + 1, σ6) (show Tr [229] σ0 σ6 ∧ (0 ≤ (x7_6 + 1).toInt) ∧ (ZB σ6.1) from ⟨hT, (by first | omega | decide | (simp only [Int32.le_iff_toInt_le, Int32.lt_iff_toInt_lt, ti_add, ti_sub, ti_mul, Int32.reduceToInt] at *; omega)), hB⟩) (show (1024 - (x7_6 + 1).toInt).toNat < (1024 - x7_6.toInt).toNat from (by first | omega | decide | (simp only [Int32.le_iff_toInt_le, Int32.lt_iff_toInt_lt, ti_add, ti_sub, ti_mul, Int32.reduceToInt] at *; omega)))
          · have q8 := or10 (a := x6_3) (b := x7_6) (by first | omega | (simp only [Int32.le_iff_toInt_le, Int32.lt_iff_toInt_lt, ti_add, ti_sub, ti_mul, Int32.reduceToInt] at *; omega)) (by first | omega | (simp only [Int32.le_iff_toInt_le, Int32.lt_iff_toInt_lt, ti_add, ti_sub, ti_mul, Int32.reduceToInt] at *; omega)) (by first | omega | (simp only [Int32.le_iff_toInt_le, Int32.lt_iff_toInt_lt, ti_add, ti_sub, ti_mul, Int32.reduceToInt] at *; omega)) (by first | omega | (simp only [Int32.le_iff_toInt_le, Int32.lt_iff_toInt_lt, ti_add, ti_sub, ti_mul, Int32.reduceToInt] at *; omega))
            refine ok_s16 hT rfl (by decide) (by first | omega | decide | (simp only [Int32.le_iff_toInt_le, Int32.lt_iff_toInt_lt, ti_add, ti_sub, ti_mul, Int32.reduceToInt] at *; omega)) (by first | omega | decide | (simp only [Int32.le_iff_toInt_le, Int32.lt_iff_toInt_lt, ti_add, ti_sub, ti_mul, Int32.reduceToInt] at *; omega)) (fun σ13 eσ13 hOσ13 hT => ?_)
            have hB : ZB σ13.1 := ZB_s eσ13 hB
            exact ih38_6 (x7_6 + 1, σ13) (show Tr [229] σ0 σ13 ∧ (0 ≤ (x7_6 + 1).toInt) ∧ (ZB σ13.1) from ⟨hT, (by first | omega | decide | (simp only [Int32.le_iff_toInt_le, Int32.lt_iff_toInt_lt, ti_add, ti_sub, ti_mul, Int32.reduceToInt] at *; omega)), hB⟩) (show (1024 - (x7_6 + 1).toInt).toNat < (1024 - x7_6.toInt).toNat from (by first | omega | decide | (simp only [Int32.le_iff_toInt_le, Int32.lt_iff_toInt_lt, ti_add, ti_sub, ti_mul, Int32.reduceToInt] at *; omega)))
  · refine ok_s16 hT rfl (by decide) (by first | omega | decide | (simp only [Int32.le_iff_toInt_le, Int32.lt_iff_toInt_lt, ti_add, ti_sub, ti_mul, Int32.reduceToInt] at *; omega)) (by first | omega | decide | (simp only [Int32.le_iff_toInt_le, Int32.lt_iff_toInt_lt, ti_add, ti_sub, ti_mul, Int32.reduceToInt] at *; omega)) (fun σ14 eσ14 hOσ14 hT => ?_)
    have hB : ZB σ14.1 := ZB_s eσ14 hB
    exact ih3_1 (x6_1 + 1, σ14) (show Tr [229] σ0 σ14 ∧ (0 ≤ (x6_1 + 1).toInt) ∧ (ZB σ14.1) from ⟨hT, (by first | omega | decide | (simp only [Int32.le_iff_toInt_le, Int32.lt_iff_toInt_lt, ti_add, ti_sub, ti_mul, Int32.reduceToInt] at *; omega)), hB⟩) (show ((1024 : Int32).toInt - (x6_1 + 1).toInt).toNat < ((1024 : Int32).toInt - x6_1.toInt).toNat from (by first | omega | decide | (simp only [Int32.le_iff_toInt_le, Int32.lt_iff_toInt_lt, ti_add, ti_sub, ti_mul, Int32.reduceToInt] at *; omega)))

set_option maxHeartbeats 4000000 in
set_option maxRecDepth 100000 in
theorem s_X12_isOver_220_220 {N : Nat} (hN : 1048576 ≤ N) {x2 : Int32} {x4 : Int32} {x5 : Int32} {σ0 : zS}  (hR : RF σ0.2.2) (hB : ZB σ0.1) (ha : 0 ≤ (σ0.1 218 20).toInt ∧ (σ0.1 218 20).toInt ≤ 1024) (h2 : 0 ≤ x2.toInt ∧ x2.toInt ≤ 9216) (h4 : 0 ≤ x4.toInt ∧ x4.toInt ≤ 9216) (h5 : 0 ≤ x5.toInt ∧ x5.toInt ≤ 1023) : Ok (f_X12_isOver N 218 220 x2 220 x4 x5 σ0) (fun r => Tr [] σ0 r.2 ∧ (r.1 = 0 ∨ r.1 = 1)) := by
  have hT : Tr [] σ0 σ0 := Tr.rf
  rw [f_X12_isOver.eq_1]
  refine ok_lp (fun t : Int32 × Int32 × zS => Tr [] σ0 (t.2.2) ∧ (0 ≤ (t.2.1).toInt ∧ ((t.1) = 0 ∨ (t.1) = 1)) ∧ (ZB (t.2.2).1)) (fun t : Int32 × Int32 × zS => (1024 - (t.2.1).toInt).toNat) (fun again1 t hI ih6_1 => ?_) N _ (show Tr [] σ0 σ0 ∧ (0 ≤ (0 : Int32).toInt ∧ ((0 : Int32) = 0 ∨ (0 : Int32) = 1)) ∧ (ZB σ0.1) from ⟨hT, (by exact ⟨by decide, Or.inl rfl⟩), hB⟩) (show (1024 - (0 : Int32).toInt).toNat < N from (by first | omega | decide | (simp only [Int32.le_iff_toInt_le, Int32.lt_iff_toInt_lt, ti_add, ti_sub, ti_mul, Int32.reduceToInt] at *; omega)))
  obtain ⟨x6_1, x7_1, σ1⟩ := t
  have hI : Tr [] σ0 σ1 ∧ (0 ≤ x7_1.toInt ∧ (x6_1 = 0 ∨ x6_1 = 1)) ∧ (ZB σ1.1) := hI
  obtain ⟨hT, hI1, hB⟩ := hI
  rw [F_X12_isOver_6.eq_1]
  have hz6 := hI1.2
  refine ok_gI0 hT rfl (by decide) ?_
  refine ok_if (fun hc3 => ?_) (fun hc3 => ?_)
  · exact ok_rZ (by assumption) ⟨hT, (show x6_1 = 0 ∨ x6_1 = 1 from by first | exact Or.inl rfl | exact Or.inr rfl | assumption)⟩
  · refine ok_aIn rfl (by first | omega | decide | (simp only [Int32.le_iff_toInt_le, Int32.lt_iff_toInt_lt, ti_add, ti_sub, ti_mul, Int32.reduceToInt] at *; omega)) (by first | omega | decide | (simp only [Int32.le_iff_toInt_le, Int32.lt_iff_toInt_lt, ti_add, ti_sub, ti_mul, Int32.reduceToInt] at *; omega)) (fun v4 ev4 => ?_)
    have zv4 : v4 = 0 ∨ v4 = 1 := by rw [ev4]; exact hB 220 rfl _
    refine ok_if (fun hc5 => ?_) (fun hc5 => ?_)
    · exact ih6_1 (x6_1, x7_1 + 1, σ1) (show Tr [] σ0 σ1 ∧ (0 ≤ (x7_1 + 1).toInt ∧ (x6_1 = 0 ∨ x6_1 = 1)) ∧ (ZB σ1.1) from ⟨hT, (by refine ⟨by first | omega | (simp only [Int32.le_iff_toInt_le, Int32.lt_iff_toInt_lt, ti_add, ti_sub, ti_mul, Int32.reduceToInt] at *; omega), ?_⟩; first | assumption | exact Or.inr rfl), hB⟩) (show (1024 - (x7_1 + 1).toInt).toNat < (1024 - x7_1.toInt).toNat from (by first | omega | decide | (simp only [Int32.le_iff_toInt_le, Int32.lt_iff_toInt_lt, ti_add, ti_sub, ti_mul, Int32.reduceToInt] at *; omega)))
    · have q8 := or10 (a := x5) (b := x7_1) (by first | omega | (simp only [Int32.le_iff_toInt_le, Int32.lt_iff_toInt_lt, ti_add, ti_sub, ti_mul, Int32.reduceToInt] at *; omega)) (by first | omega | (simp only [Int32.le_iff_toInt_le, Int32.lt_iff_toInt_lt, ti_add, ti_sub, ti_mul, Int32.reduceToInt] at *; omega)) (by first | omega | (simp only [Int32.le_iff_toInt_le, Int32.lt_iff_toInt_lt, ti_add, ti_sub, ti_mul, Int32.reduceToInt] at *; omega)) (by first | omega | (simp only [Int32.le_iff_toInt_le, Int32.lt_iff_toInt_lt, ti_add, ti_sub, ti_mul, Int32.reduceToInt] at *; omega))
      refine ok_if (fun hc6 => ?_) (fun hc6 => ?_)
      · refine ok_aIn rfl (by first | omega | decide | (simp only [Int32.le_iff_toInt_le, Int32.lt_iff_toInt_lt, ti_add, ti_sub, ti_mul, Int32.reduceToInt] at *; omega)) (by first | omega | decide | (simp only [Int32.le_iff_toInt_le, Int32.lt_iff_toInt_lt, ti_add, ti_sub, ti_mul, Int32.reduceToInt] at *; omega)) (fun v7 ev7 => ?_)
        have zv7 : v7 = 0 ∨ v7 = 1 := by rw [ev7]; exact hB 220 rfl _
        refine ok_if (fun hc8 => ?_) (fun hc8 => ?_)
        · exact ok_rZ (Or.inl rfl) ⟨hT, (show (0 : Int32) = 0 ∨ (0 : Int32) = 1 from by first | exact Or.inl rfl | exact Or.inr rfl | assumption)⟩
        · exact ih6_1 (1, x7_1 + 1, σ1) (show Tr [] σ0 σ1 ∧ (0 ≤ (x7_1 + 1).toInt ∧ ((1 : Int32) = 0 ∨ (1 : Int32) = 1)) ∧ (ZB σ1.1) from ⟨hT, (by refine ⟨by first | omega | (simp only [Int32.le_iff_toInt_le, Int32.lt_iff_toInt_lt, ti_add, ti_sub, ti_mul, Int32.reduceToInt] at *; omega), ?_⟩; first | assumption | exact Or.inr rfl), hB⟩) (show (1024 - (x7_1 + 1).toInt).toNat < (1024 - x7_1.toInt).toNat from (by first | omega | decide | (simp only [Int32.le_iff_toInt_le, Int32.lt_iff_toInt_lt, ti_add, ti_sub, ti_mul, Int32.reduceToInt] at *; omega)))
      · exact ok_rZ (Or.inl rfl) ⟨hT, (show (0 : Int32) = 0 ∨ (0 : Int32) = 1 from by first | exact Or.inl rfl | exact Or.inr rfl | assumption)⟩

set_option maxHeartbeats 4000000 in
set_option maxRecDepth 100000 in
theorem s_X12_joins_226_226_227 {N : Nat} (hN : 1048576 ≤ N) {x2 : Int32} {x4 : Int32} {σ0 : zS}  (hR : RF σ0.2.2) (hB : ZB σ0.1) (ha : 0 ≤ (σ0.1 218 20).toInt ∧ (σ0.1 218 20).toInt ≤ 1024) (h2 : 0 ≤ x2.toInt ∧ x2.toInt ≤ 17408) (h4 : 0 ≤ x4.toInt ∧ x4.toInt ≤ 17408) : Ok (f_X12_joins N 218 226 x2 226 x4 227 σ0) (fun r => Tr [227] σ0 r.2 ∧ (ZB r.2.1)) := by
  have hT : Tr [227] σ0 σ0 := Tr.rf
  rw [f_X12_joins.eq_1]
  refine ok_lp (fun t : Int32 × zS => Tr [227] σ0 (t.2) ∧ (0 ≤ (t.1).toInt) ∧ (ZB (t.2).1)) (fun t : Int32 × zS => ((1024 : Int32).toInt - (t.1).toInt).toNat) (fun again1 t hI ih3_1 => ?_) N _ (show Tr [227] σ0 σ0 ∧ (0 ≤ (0 : Int32).toInt) ∧ (ZB σ0.1) from ⟨hT, (by first | omega | decide | (simp only [Int32.le_iff_toInt_le, Int32.lt_iff_toInt_lt, ti_add, ti_sub, ti_mul, Int32.reduceToInt] at *; omega)), hB⟩) (show ((1024 : Int32).toInt - (0 : Int32).toInt).toNat < N from (by first | omega | decide | (simp only [Int32.le_iff_toInt_le, Int32.lt_iff_toInt_lt, ti_add, ti_sub, ti_mul, Int32.reduceToInt] at *; omega)))
  obtain ⟨x6_1, σ1⟩ := t
  have hI : Tr [227] σ0 σ1 ∧ (0 ≤ x6_1.toInt) ∧ (ZB σ1.1) := hI
  obtain ⟨hT, hI1, hB⟩ := hI
  rw [F_X12_joins_3.eq_1]
  refine ok_if (fun hc2 => ?_) (fun hc2 => ?_)
  · refine ok_lp (fun t : Int32 × zS => Tr [227] σ0 (t.2) ∧ (0 ≤ (t.1).toInt) ∧ (ZB (t.2).1)) (fun t : Int32 × zS => (1024 - (t.1).toInt).toNat) (fun again3 t hI ih26_3 => ?_) N _ (show Tr [227] σ0 σ1 ∧ (0 ≤ (0 : Int32).toInt) ∧ (ZB σ1.1) from ⟨hT, (by first | omega | decide | (simp only [Int32.le_iff_toInt_le, Int32.lt_iff_toInt_lt, ti_add, ti_sub, ti_mul, Int32.reduceToInt] at *; omega)), hB⟩) (show (1024 - (0 : Int32).toInt).toNat < N from (by first | omega | decide | (simp only [Int32.le_iff_toInt_le, Int32.lt_iff_toInt_lt, ti_add, ti_sub, ti_mul, Int32.reduceToInt] at *; omega)))
    obtain ⟨x6_3, σ3⟩ := t
    have hI : Tr [227] σ0 σ3 ∧ (0 ≤ x6_3.toInt) ∧ (ZB σ3.1) := hI
    obtain ⟨hT, hI3, hB⟩ := hI
    rw [F_X12_joins_26.eq_1]
    refine ok_gI0 hT rfl (by decide) ?_
    refine ok_if (fun hc5 => ?_) (fun hc5 => ?_)
    · exact ok_some ⟨hT, (show ZB σ3.1 from by exact hB)⟩
    · refine ok_lp (fun t : Int32 × zS => Tr [227] σ0 (t.2) ∧ (0 ≤ (t.1).toInt) ∧ (ZB (t.2).1)) (fun t : Int32 × zS => (1024 - (t.1).toInt).toNat) (fun again6 t hI ih38_6 => ?_) N _ (show Tr [227] σ0 σ3 ∧ (0 ≤ (0 : Int32).toInt) ∧ (ZB σ3.1) from ⟨hT, (by first | omega | decide | (simp only [Int32.le_iff_toInt_le, Int32.lt_iff_toInt_lt, ti_add, ti_sub, ti_mul, Int32.reduceToInt] at *; omega)), hB⟩) (show (1024 - (0 : Int32).toInt).toNat < N from (by first | omega | decide | (simp only [Int32.le_iff_toInt_le, Int32.lt_iff_toInt_lt, ti_add, ti_sub, ti_mul, Int32.reduceToInt] at *; omega)))
      obtain ⟨x7_6, σ6⟩ := t
      have hI : Tr [227] σ0 σ6 ∧ (0 ≤ x7_6.toInt) ∧ (ZB σ6.1) := hI
      obtain ⟨hT, hI6, hB⟩ := hI
      rw [F_X12_joins_38.eq_1]
      refine ok_gI0 hT rfl (by decide) ?_
      refine ok_if (fun hc8 => ?_) (fun hc8 => ?_)
      · exact ih26_3 (x6_3 + 1, σ6) (show Tr [227] σ0 σ6 ∧ (0 ≤ (x6_3 + 1).toInt) ∧ (ZB σ6.1) from ⟨hT, (by first | omega | decide | (simp only [Int32.le_iff_toInt_le, Int32.lt_iff_toInt_lt, ti_add, ti_sub, ti_mul, Int32.reduceToInt] at *; omega)), hB⟩) (show (1024 - (x6_3 + 1).toInt).toNat < (1024 - x6_3.toInt).toNat from (by first | omega | decide | (simp only [Int32.le_iff_toInt_le, Int32.lt_iff_toInt_lt, ti_add, ti_sub, ti_mul, Int32.reduceToInt] at *; omega)))
      · refine ok_aIn rfl (by first | omega | decide | (simp only [Int32.le_iff_toInt_le, Int32.lt_iff_toInt_lt, ti_add, ti_sub, ti_mul, Int32.reduceToInt] at *; omega)) (by first | omega | decide | (simp only [Int32.le_iff_toInt_le, Int32.lt_iff_toInt_lt, ti_add, ti_sub, ti_mul, Int32.reduceToInt] at *; omega)) (fun v9 ev9 => ?_)
        have zv9 : v9 = 0 ∨ v9 = 1 := by rw [ev9]; exact hB 226 rfl _
        refine ok_if (fun hc10 => ?_) (fun hc10 => ?_)
        · exact ih26_3 (x6_3 + 1, σ6) (show Tr [227] σ0 σ6 ∧ (0 ≤ (x6_3 + 1).toInt) ∧ (ZB σ6.1) from ⟨hT, (by first | omega | decide | (simp only [Int32.le_iff_toInt_le, Int32.lt_iff_toInt_lt, ti_add, ti_sub, ti_mul, Int32.reduceToInt] at *; omega)), hB⟩) (show (1024 - (x6_3 + 1).toInt).toNat < (1024 - x6_3.toInt).toNat from (by first | omega | decide | (simp only [Int32.le_iff_toInt_le, Int32.lt_iff_toInt_lt, ti_add, ti_sub, ti_mul, Int32.reduceToInt] at *; omega)))
        · refine ok_aIn rfl (by first | omega | decide | (simp only [Int32.le_iff_toInt_le, Int32.lt_iff_toInt_lt, ti_add, ti_sub, ti_mul, Int32.reduceToInt] at *; omega)) (by first | omega | decide | (simp only [Int32.le_iff_toInt_le, Int32.lt_iff_toInt_lt, ti_add, ti_sub, ti_mul, Int32.reduceToInt] at *; omega)) (fun v11 ev11 => ?_)
          have zv11 : v11 = 0 ∨ v11 = 1 := by rw [ev11]; exact hB 226 rfl _
          refine ok_if (fun hc12 => ?_) (fun hc12 => ?_)
          · exact ih38_6 (x7_6 + 1, σ6) (show Tr [227] σ0 σ6 ∧ (0 ≤ (x7_6 + 1).toInt) ∧ (ZB σ6.1) from ⟨hT, (by first | omega | decide | (simp only [Int32.le_iff_toInt_le, Int32.lt_iff_toInt_lt, ti_add, ti_sub, ti_mul, Int32.reduceToInt] at *; omega)), hB⟩) (show (1024 - (x7_6 + 1).toInt).toNat < (1024 - x7_6.toInt).toNat from (by first | omega | decide | (simp only [Int32.le_iff_toInt_le, Int32.lt_iff_toInt_lt, ti_add, ti_sub, ti_mul, Int32.reduceToInt] at *; omega)))
          · have q8 := or10 (a := x6_3) (b := x7_6) (by first | omega | (simp only [Int32.le_iff_toInt_le, Int32.lt_iff_toInt_lt, ti_add, ti_sub, ti_mul, Int32.reduceToInt] at *; omega)) (by first | omega | (simp only [Int32.le_iff_toInt_le, Int32.lt_iff_toInt_lt, ti_add, ti_sub, ti_mul, Int32.reduceToInt] at *; omega)) (by first | omega | (simp only [Int32.le_iff_toInt_le, Int32.lt_iff_toInt_lt, ti_add, ti_sub, ti_mul, Int32.reduceToInt] at *; omega)) (by first | omega | (simp only [Int32.le_iff_toInt_le, Int32.lt_iff_toInt_lt, ti_add, ti_sub, ti_mul, Int32.reduceToInt] at *; omega))
            refine ok_s16 hT rfl (by decide) (by first | omega | decide | (simp only [Int32.le_iff_toInt_le, Int32.lt_iff_toInt_lt, ti_add, ti_sub, ti_mul, Int32.reduceToInt] at *; omega)) (by first | omega | decide | (simp only [Int32.le_iff_toInt_le, Int32.lt_iff_toInt_lt, ti_add, ti_sub, ti_mul, Int32.reduceToInt] at *; omega)) (fun σ13 eσ13 hOσ13 hT => ?_)
            have hB : ZB σ13.1 := ZB_s eσ13 hB
            exact ih38_6 (x7_6 + 1, σ13) (show Tr [227] σ0 σ13 ∧ (0 ≤ (x7_6 + 1).toInt) ∧ (ZB σ13.1) from ⟨hT, (by first | omega | decide | (simp only [Int32.le_iff_toInt_le, Int32.lt_iff_toInt_lt, ti_add, ti_sub, ti_mul, Int32.reduceToInt] at *; omega)), hB⟩) (show (1024 - (x7_6 + 1).toInt).toNat < (1024 - x7_6.toInt).toNat from (by first | omega | decide | (simp only [Int32.le_iff_toInt_le, Int32.lt_iff_toInt_lt, ti_add, ti_sub, ti_mul, Int32.reduceToInt] at *; omega)))
  · refine ok_s16 hT rfl (by decide) (by first | omega | decide | (simp only [Int32.le_iff_toInt_le, Int32.lt_iff_toInt_lt, ti_add, ti_sub, ti_mul, Int32.reduceToInt] at *; omega)) (by first | omega | decide | (simp only [Int32.le_iff_toInt_le, Int32.lt_iff_toInt_lt, ti_add, ti_sub, ti_mul, Int32.reduceToInt] at *; omega)) (fun σ14 eσ14 hOσ14 hT => ?_)
    have hB : ZB σ14.1 := ZB_s eσ14 hB
    exact ih3_1 (x6_1 + 1, σ14) (show Tr [227] σ0 σ14 ∧ (0 ≤ (x6_1 + 1).toInt) ∧ (ZB σ14.1) from ⟨hT, (by first | omega | decide | (simp only [Int32.le_iff_toInt_le, Int32.lt_iff_toInt_lt, ti_add, ti_sub, ti_mul, Int32.reduceToInt] at *; omega)), hB⟩) (show ((1024 : Int32).toInt - (x6_1 + 1).toInt).toNat < ((1024 : Int32).toInt - x6_1.toInt).toNat from (by first | omega | decide | (simp only [Int32.le_iff_toInt_le, Int32.lt_iff_toInt_lt, ti_add, ti_sub, ti_mul, Int32.reduceToInt] at *; omega)))

set_option maxHeartbeats 4000000 in
set_option maxRecDepth 100000 in
theorem s_X12_joins_226_228_229 {N : Nat} (hN : 1048576 ≤ N) {x2 : Int32} {x4 : Int32} {σ0 : zS}  (hR : RF σ0.2.2) (hB : ZB σ0.1) (ha : 0 ≤ (σ0.1 218 20).toInt ∧ (σ0.1 218 20).toInt ≤ 1024) (h2 : 0 ≤ x2.toInt ∧ x2.toInt ≤ 17408) (h4 : 0 ≤ x4.toInt ∧ x4.toInt ≤ 0) : Ok (f_X12_joins N 218 226 x2 228 x4 229 σ0) (fun r => Tr [229] σ0 r.2 ∧ (ZB r.2.1)) := by
  have hT : Tr [229] σ0 σ0 := Tr.rf
  rw [f_X12_joins.eq_1]
  refine ok_lp (fun t : Int32 × zS => Tr [229] σ0 (t.2) ∧ (0 ≤ (t.1).toInt) ∧ (ZB (t.2).1)) (fun t : Int32 × zS => ((1024 : Int32).toInt - (t.1).toInt).toNat) (fun again1 t hI ih3_1 => ?_) N _ (show Tr [229] σ0 σ0 ∧ (0 ≤ (0 : Int32).toInt) ∧ (ZB σ0.1) from ⟨hT, (by first | omega | decide | (simp only [Int32.le_iff_toInt_le, Int32.lt_iff_toInt_lt, ti_add, ti_sub, ti_mul, Int32.reduceToInt] at *; omega)), hB⟩) (show ((1024 : Int32).toInt - (0 : Int32).toInt).toNat < N from (by first | omega | decide | (simp only [Int32.le_iff_toInt_le, Int32.lt_iff_toInt_lt, ti_add, ti_sub, ti_mul, Int32.reduceToInt] at *; omega)))
  obtain ⟨x6_1, σ1⟩ := t
  have hI : Tr [229] σ0 σ1 ∧ (0 ≤ x6_1.toInt) ∧ (ZB σ1.1) := hI
  obtain ⟨hT, hI1, hB⟩ := hI
  rw [F_X12_joins_3.eq_1]
  refine ok_if (fun hc2 => ?_) (fun hc2 => ?_)
  · refine ok_lp (fun t : Int32 × zS => Tr [229] σ0 (t.2) ∧ (0 ≤ (t.1).toInt) ∧ (ZB (t.2).1)) (fun t : Int32 × zS => (1024 - (t.1).toInt).toNat) (fun again3 t hI ih26_3 => ?_) N _ (show Tr [229] σ0 σ1 ∧ (0 ≤ (0 : Int32).toInt) ∧ (ZB σ1.1) from ⟨hT, (by first | omega | decide | (simp only [Int32.le_iff_toInt_le, Int32.lt_iff_toInt_lt, ti_add, ti_sub, ti_mul, Int32.reduceToInt] at *; omega)), hB⟩) (show (1024 - (0 : Int32).toInt).toNat < N from (by first | omega | decide | (simp only [Int32.le_iff_toInt_le, Int32.lt_iff_toInt_lt, ti_add, ti_sub, ti_mul, Int32.reduceToInt] at *; omega)))
    obtain ⟨x6_3, σ3⟩ := t
    have hI : Tr [229] σ0 σ3 ∧ (0 ≤ x6_3.toInt) ∧ (ZB σ3.1) := hI
    obtain ⟨hT, hI3, hB⟩ := hI
    rw [F_X12_joins_26.eq_1]
    refine ok_gI0 hT rfl (by decide) ?_
    refine ok_if (fun hc5 => ?_) (fun hc5 => ?_)
    · exact ok_some ⟨hT, (show ZB σ3.1 from by exact hB)⟩
    · refine ok_lp (fun t : Int32 × zS => Tr [229] σ0 (t.2) ∧ (0 ≤ (t.1).toInt) ∧ (ZB (t.2).1)) (fun t : Int32 × zS => (1024 - (t.1).toInt).toNat) (fun again6 t hI ih38_6 => ?_) N _ (show Tr [229] σ0 σ3 ∧ (0 ≤ (0 : Int32).toInt) ∧ (ZB σ3.1) from ⟨hT, (by first | omega | decide | (simp only [Int32.le_iff_toInt_le, Int32.lt_iff_toInt_lt, ti_add, ti_sub, ti_mul, Int32.reduceToInt] at *; omega)), hB⟩) (show (1024 - (0 : Int32).toInt).toNat < N from (by first | omega | decide | (simp only [Int32.le_iff_toInt_le, Int32.lt_iff_toInt_lt, ti_add, ti_sub, ti_mul, Int32.reduceToInt] at *; omega)))
      obtain ⟨x7_6, σ6⟩ := t
      have hI : Tr [229] σ0 σ6 ∧ (0 ≤ x7_6.toInt) ∧ (ZB σ6.1) := hI
      obtain ⟨hT, hI6, hB⟩ := hI
      rw [F_X12_joins_38.eq_1]
      refine ok_gI0 hT rfl (by decide) ?_
      refine ok_if (fun hc8 => ?_) (fun hc8 => ?_)
      · exact ih26_3 (x6_3 + 1, σ6) (show Tr [229] σ0 σ6 ∧ (0 ≤ (x6_3 + 1).toInt) ∧ (ZB σ6.1) from ⟨hT, (by first | omega | decide | (simp only [Int32.le_iff_toInt_le, Int32.lt_iff_toInt_lt, ti_add, ti_sub, ti_mul, Int32.reduceToInt] at *; omega)), hB⟩) (show (1024 - (x6_3 + 1).toInt).toNat < (1024 - x6_3.toInt).toNat from (by first | omega | decide | (simp only [Int32.le_iff_toInt_le, Int32.lt_iff_toInt_lt, ti_add, ti_sub, ti_mul, Int32.reduceToInt] at *; omega)))
      · refine ok_aIn rfl (by first | omega | decide | (simp only [Int32.le_iff_toInt_le, Int32.lt_iff_toInt_lt, ti_add, ti_sub, ti_mul, Int32.reduceToInt] at *; omega)) (by first | omega | decide | (simp only [Int32.le_iff_toInt_le, Int32.lt_iff_toInt_lt, ti_add, ti_sub, ti_mul, Int32.reduceToInt] at *; omega)) (fun v9 ev9 => ?_)
        have zv9 : v9 = 0 ∨ v9 = 1 := by rw [ev9]; exact hB 226 rfl _
        refine ok_if (fun hc10 => ?_) (fun hc10 => ?_)
        · exact ih26_3 (x6_3 + 1, σ6) (show Tr [229] σ0 σ6 ∧ (0 ≤ (x6_3 + 1).toInt) ∧ (ZB σ6.1) from ⟨hT, (by first | omega | decide | (simp only [Int32.le_iff_toInt_le, Int32.lt_iff_toInt_lt, ti_add, ti_sub, ti_mul, Int32.reduceToInt] at *; omega)), hB⟩) (show (1024 - (x6_3 + 1).toInt).toNat < (1024 - x6_3.toInt).toNat from (by first | omega | decide | (simp only [Int32.le_iff_toInt_le, Int32.lt_iff_toInt_lt, ti_add, ti_sub, ti_mul, Int32.reduceToInt] at *; omega)))
        · refine ok_aIn rfl (by first | omega | decide | (simp only [Int32.le_iff_toInt_le, Int32.lt_iff_toInt_lt, ti_add, ti_sub, ti_mul, Int32.reduceToInt] at *; omega)) (by first | omega | decide | (simp only [Int32.le_iff_toInt_le, Int32.lt_iff_toInt_lt, ti_add, ti_sub, ti_mul, Int32.reduceToInt] at *; omega)) (fun v11 ev11 => ?_)
          have zv11 : v11 = 0 ∨ v11 = 1 := by rw [ev11]; exact hB 228 rfl _
          refine ok_if (fun hc12 => ?_) (fun hc12 => ?_)
          · exact ih38_6 (x7_6 + 1, σ6) (show Tr [229] σ0 σ6 ∧ (0 ≤ (x7_6 + 1).toInt) ∧ (ZB σ6.1) from ⟨hT, (by first | omega | decide | (simp only [Int32.le_iff_toInt_le, Int32.lt_iff_toInt_lt, ti_add, ti_sub, ti_mul, Int32.reduceToInt] at *; omega)), hB⟩) (show (1024 - (x7_6 + 1).toInt).toNat < (1024 - x7_6.toInt).toNat from (by first | omega | decide | (simp only [Int32.le_iff_toInt_le, Int32.lt_iff_toInt_lt, ti_add, ti_sub, ti_mul, Int32.reduceToInt] at *; omega)))
          · have q8 := or10 (a := x6_3) (b := x7_6) (by first | omega | (simp only [Int32.le_iff_toInt_le, Int32.lt_iff_toInt_lt, ti_add, ti_sub, ti_mul, Int32.reduceToInt] at *; omega)) (by first | omega | (simp only [Int32.le_iff_toInt_le, Int32.lt_iff_toInt_lt, ti_add, ti_sub, ti_mul, Int32.reduceToInt] at *; omega)) (by first | omega | (simp only [Int32.le_iff_toInt_le, Int32.lt_iff_toInt_lt, ti_add, ti_sub, ti_mul, Int32.reduceToInt] at *; omega)) (by first | omega | (simp only [Int32.le_iff_toInt_le, Int32.lt_iff_toInt_lt, ti_add, ti_sub, ti_mul, Int32.reduceToInt] at *; omega))
            refine ok_s16 hT rfl (by decide) (by first | omega | decide | (simp only [Int32.le_iff_toInt_le, Int32.lt_iff_toInt_lt, ti_add, ti_sub, ti_mul, Int32.reduceToInt] at *; omega)) (by first | omega | decide | (simp only [Int32.le_iff_toInt_le, Int32.lt_iff_toInt_lt, ti_add, ti_sub, ti_mul, Int32.reduceToInt] at *; omega)) (fun σ13 eσ13 hOσ13 hT => ?_)
            have hB : ZB σ13.1 := ZB_s eσ13 hB
            exact ih38_6 (x7_6 + 1, σ13) (show Tr [229] σ0 σ13 ∧ (0 ≤ (x7_6 + 1).toInt) ∧ (ZB σ13.1) from ⟨hT, (by first | omega | decide | (simp only [Int32.le_iff_toInt_le, Int32.lt_iff_toInt_lt, ti_add, ti_sub, ti_mul, Int32.reduceToInt] at *; omega)), hB⟩) (show (1024 - (x7_6 + 1).toInt).toNat < (1024 - x7_6.toInt).toNat from (by first | omega | decide | (simp only [Int32.le_iff_toInt_le, Int32.lt_iff_toInt_lt, ti_add, ti_sub, ti_mul, Int32.reduceToInt] at *; omega)))
  · refine ok_s16 hT rfl (by decide) (by first | omega | decide | (simp only [Int32.le_iff_toInt_le, Int32.lt_iff_toInt_lt, ti_add, ti_sub, ti_mul, Int32.reduceToInt] at *; omega)) (by first | omega | decide | (simp only [Int32.le_iff_toInt_le, Int32.lt_iff_toInt_lt, ti_add, ti_sub, ti_mul, Int32.reduceToInt] at *; omega)) (fun σ14 eσ14 hOσ14 hT => ?_)
    have hB : ZB σ14.1 := ZB_s eσ14 hB
    exact ih3_1 (x6_1 + 1, σ14) (show Tr [229] σ0 σ14 ∧ (0 ≤ (x6_1 + 1).toInt) ∧ (ZB σ14.1) from ⟨hT, (by first | omega | decide | (simp only [Int32.le_iff_toInt_le, Int32.lt_iff_toInt_lt, ti_add, ti_sub, ti_mul, Int32.reduceToInt] at *; omega)), hB⟩) (show ((1024 : Int32).toInt - (x6_1 + 1).toInt).toNat < ((1024 : Int32).toInt - x6_1.toInt).toNat from (by first | omega | decide | (simp only [Int32.le_iff_toInt_le, Int32.lt_iff_toInt_lt, ti_add, ti_sub, ti_mul, Int32.reduceToInt] at *; omega)))

set_option maxHeartbeats 4000000 in
set_option maxRecDepth 100000 in
theorem s_X12_isOver_226_226 {N : Nat} (hN : 1048576 ≤ N) {x2 : Int32} {x4 : Int32} {x5 : Int32} {σ0 : zS}  (hR : RF σ0.2.2) (hB : ZB σ0.1) (ha : 0 ≤ (σ0.1 218 20).toInt ∧ (σ0.1 218 20).toInt ≤ 1024) (h2 : 0 ≤ x2.toInt ∧ x2.toInt ≤ 17408) (h4 : 0 ≤ x4.toInt ∧ x4.toInt ≤ 17408) (h5 : 0 ≤ x5.toInt ∧ x5.toInt ≤ 1023) : Ok (f_X12_isOver N 218 226 x2 226 x4 x5 σ0) (fun r => Tr [] σ0 r.2 ∧ (r.1 = 0 ∨ r.1 = 1)) := by
  have hT : Tr [] σ0 σ0 := Tr.rf
  rw [f_X12_isOver.eq_1]
  refine ok_lp (fun t : Int32 × Int32 × zS => Tr [] σ0 (t.2.2) ∧ (0 ≤ (t.2.1).toInt ∧ ((t.1) = 0 ∨ (t.1) = 1)) ∧ (ZB (t.2.2).1)) (fun t : Int32 × Int32 × zS => (1024 - (t.2.1).toInt).toNat) (fun again1 t hI ih6_1 => ?_) N _ (show Tr [] σ0 σ0 ∧ (0 ≤ (0 : Int32).toInt ∧ ((0 : Int32) = 0 ∨ (0 : Int32) = 1)) ∧ (ZB σ0.1) from ⟨hT, (by exact ⟨by decide, Or.inl rfl⟩), hB⟩) (show (1024 - (0 : Int32).toInt).toNat < N from (by first | omega | decide | (simp only [Int32.le_iff_toInt_le, Int32.lt_iff_toInt_lt, ti_add, ti_sub, ti_mul, Int32.reduceToInt] at *; omega)))
  obtain ⟨x6_1, x7_1, σ1⟩ := t
  have hI : Tr [] σ0 σ1 ∧ (0 ≤ x7_1.toInt ∧ (x6_1 = 0 ∨ x6_1 = 1)) ∧ (ZB σ1.1) := hI
  obtain ⟨hT, hI1, hB⟩ := hI
  rw [F_X12_isOver_6.eq_1]
  have hz6 := hI1.2
  refine ok_gI0 hT rfl (by decide) ?_
  refine ok_if (fun hc3 => ?_) (fun hc3 => ?_)
  · exact ok_rZ (by assumption) ⟨hT, (show x6_1 = 0 ∨ x6_1 = 1 from by first | exact Or.inl rfl | exact Or.inr rfl | assumption)⟩
  · refine ok_aIn rfl (by first | omega | decide | (simp only [Int32.le_iff_toInt_le, Int32.lt_iff_toInt_lt, ti_add, ti_sub, ti_mul, Int32.reduceToInt] at *; omega)) (by first | omega | decide | (simp only [Int32.le_iff_toInt_le, Int32.lt_iff_toInt_lt, ti_add, ti_sub, ti_mul, Int32.reduceToInt] at *; omega)) (fun v4 ev4 => ?_)
    have zv4 : v4 = 0 ∨ v4 = 1 := by rw [ev4]; exact hB 226 rfl _
    refine ok_if (fun hc5 => ?_) (fun hc5 => ?_)
    · exact ih6_1 (x6_1, x7_1 + 1, σ1) (show Tr [] σ0 σ1 ∧ (0 ≤ (x7_1 + 1).toInt ∧ (x6_1 = 0 ∨ x6_1 = 1)) ∧ (ZB σ1.1) from ⟨hT, (by refine ⟨by first | omega | (simp only [Int32.le_iff_toInt_le, Int32.lt_iff_toInt_lt, ti_add, ti_sub, ti_mul, Int32.reduceToInt] at *; omega), ?_⟩; first | assumption | exact Or.inr rfl), hB⟩) (show (1024 - (x7_1 + 1).toInt).toNat < (1024 - x7_1.toInt).toNat from (by first | omega | decide | (simp only [Int32.le_iff_toInt_le, Int32.lt_iff_toInt_lt, ti_add, ti_sub, ti_mul, Int32.reduceToInt] at *; omega)))
    · have q8 := or10 (a := x5) (b := x7_1) (by first | omega | (simp only [Int32.le_iff_toInt_le, Int32.lt_iff_toInt_lt, ti_add, ti_sub, ti_mul, Int32.reduceToInt] at *; omega)) (by first | omega | (simp only [Int32.le_iff_toInt_le, Int32.lt_iff_toInt_lt, ti_add, ti_sub, ti_mul, Int32.reduceToInt] at *; omega)) (by first | omega | (simp only [Int32.le_iff_toInt_le, Int32.lt_iff_toInt_lt, ti_add, ti_sub, ti_mul, Int32.reduceToInt] at *; omega)) (by first | omega | (simp only [Int32.le_iff_toInt_le, Int32.lt_iff_toInt_lt, ti_add, ti_sub, ti_mul, Int32.reduceToInt] at *; omega))
      refine ok_if (fun hc6 => ?_) (fun hc6 => ?_)
      · refine ok_aIn rfl (by first | omega | decide | (simp only [Int32.le_iff_toInt_le, Int32.lt_iff_toInt_lt, ti_add, ti_sub, ti_mul, Int32.reduceToInt] at *; omega)) (by first | omega | decide | (simp only [Int32.le_iff_toInt_le, Int32.lt_iff_toInt_lt, ti_add, ti_sub, ti_mul, Int32.reduceToInt] at *; omega)) (fun v7 ev7 => ?_)
        have zv7 : v7 = 0 ∨ v7 = 1 := by rw [ev7]; exact hB 226 rfl _
        refine ok_if (fun hc8 => ?_) (fun hc8 => ?_)
        · exact ok_rZ (Or.inl rfl) ⟨hT, (show (0 : Int32) = 0 ∨ (0 : Int32) = 1 from by first | exact Or.inl rfl | exact Or.inr rfl | assumption)⟩
        · exact ih6_1 (1, x7_1 + 1, σ1) (show Tr [] σ0 σ1 ∧ (0 ≤ (x7_1 + 1).toInt ∧ ((1 : Int32) = 0 ∨ (1 : Int32) = 1)) ∧ (ZB σ1.1) from ⟨hT, (by refine ⟨by first | omega | (simp only [Int32.le_iff_toInt_le, Int32.lt_iff_toInt_lt, ti_add, ti_sub, ti_mul, Int32.reduceToInt] at *; omega), ?_⟩; first | assumption | exact Or.inr rfl), hB⟩) (show (1024 - (x7_1 + 1).toInt).toNat < (1024 - x7_1.toInt).toNat from (by first | omega | decide | (simp only [Int32.le_iff_toInt_le, Int32.lt_iff_toInt_lt, ti_add, ti_sub, ti_mul, Int32.reduceToInt] at *; omega)))
      · exact ok_rZ (Or.inl rfl) ⟨hT, (show (0 : Int32) = 0 ∨ (0 : Int32) = 1 from by first | exact Or.inl rfl | exact Or.inr rfl | assumption)⟩

set_option maxHeartbeats 4000000 in
set_option maxRecDepth 100000 in
theorem s_X12_isTouching_220 {N : Nat} (hN : 1048576 ≤ N) {x2 : Int32} {x3 : Int32} {σ0 : zS}  (hR : RF σ0.2.2) (hB : ZB σ0.1) (ha : 0 ≤ (σ0.1 218 20).toInt ∧ (σ0.1 218 20).toInt ≤ 1024) (h2 : 0 ≤ x2.toInt ∧ x2.toInt ≤ 9216) (h3 : 0 ≤ x3.toInt ∧ x3.toInt ≤ 1023) : Ok (f_X12_isTouching N 218 220 x2 x3 σ0) (fun r => Tr [] σ0 r.2 ∧ (r.1 = 0 ∨ r.1 = 1)) := by
  have hT : Tr [] σ0 σ0 := Tr.rf
  rw [f_X12_isTouching.eq_1]
  refine ok_lp (fun t : Int32 × zS => Tr [] σ0 (t.2) ∧ (0 ≤ (t.1).toInt) ∧ (ZB (t.2).1)) (fun t : Int32 × zS => (1024 - (t.1).toInt).toNat) (fun again1 t hI ih3_1 => ?_) N _ (show Tr [] σ0 σ0 ∧ (0 ≤ (0 : Int32).toInt) ∧ (ZB σ0.1) from ⟨hT, (by first | omega | decide | (simp only [Int32.le_iff_toInt_le, Int32.lt_iff_toInt_lt, ti_add, ti_sub, ti_mul, Int32.reduceToInt] at *; omega)), hB⟩) (show (1024 - (0 : Int32).toInt).toNat < N from (by first | omega | decide | (simp only [Int32.le_iff_toInt_le, Int32.lt_iff_toInt_lt, ti_add, ti_sub, ti_mul, Int32.reduceToInt] at *; omega)))
  obtain ⟨x4_1, σ1⟩ := t
  have hI : Tr [] σ0 σ1 ∧ (0 ≤ x4_1.toInt) ∧ (ZB σ1.1) := hI
  obtain ⟨hT, hI1, hB⟩ := hI
  rw [F_X12_isTouching_3.eq_1]
  refine ok_gI0 hT rfl (by decide) ?_
  refine ok_if (fun hc3 => ?_) (fun hc3 => ?_)
  · exact ok_rZ (Or.inr rfl) ⟨hT, (show (1 : Int32) = 0 ∨ (1 : Int32) = 1 from by first | exact Or.inl rfl | exact Or.inr rfl)⟩
  · refine ok_aIn rfl (by first | omega | decide | (simp only [Int32.le_iff_toInt_le, Int32.lt_iff_toInt_lt, ti_add, ti_sub, ti_mul, Int32.reduceToInt] at *; omega)) (by first | omega | decide | (simp only [Int32.le_iff_toInt_le, Int32.lt_iff_toInt_lt, ti_add, ti_sub, ti_mul, Int32.reduceToInt] at *; omega)) (fun v4 ev4 => ?_)
    have zv4 : v4 = 0 ∨ v4 = 1 := by rw [ev4]; exact hB 220 rfl _
    refine ok_if (fun hc5 => ?_) (fun hc5 => ?_)
    · exact ih3_1 (x4_1 + 1, σ1) (show Tr [] σ0 σ1 ∧ (0 ≤ (x4_1 + 1).toInt) ∧ (ZB σ1.1) from ⟨hT, (by first | omega | decide | (simp only [Int32.le_iff_toInt_le, Int32.lt_iff_toInt_lt, ti_add, ti_sub, ti_mul, Int32.reduceToInt] at *; omega)), hB⟩) (show (1024 - (x4_1 + 1).toInt).toNat < (1024 - x4_1.toInt).toNat from (by first | omega | decide | (simp only [Int32.le_iff_toInt_le, Int32.lt_iff_toInt_lt, ti_add, ti_sub, ti_mul, Int32.reduceToInt] at *; omega)))
    · refine ok_if (fun hc6 => ?_) (fun hc6 => ?_)
      · exact ok_rZ (Or.inl rfl) ⟨hT, (show (0 : Int32) = 0 ∨ (0 : Int32) = 1 from by first | exact Or.inl rfl | exact Or.inr rfl)⟩
      · exact ih3_1 (x4_1 + 1, σ1) (show Tr [] σ0 σ1 ∧ (0 ≤ (x4_1 + 1).toInt) ∧ (ZB σ1.1) from ⟨hT, (by first | omega | decide | (simp only [Int32.le_iff_toInt_le, Int32.lt_iff_toInt_lt, ti_add, ti_sub, ti_mul, Int32.reduceToInt] at *; omega)), hB⟩) (show (1024 - (x4_1 + 1).toInt).toNat < (1024 - x4_1.toInt).toNat from (by first | omega | decide | (simp only [Int32.le_iff_toInt_le, Int32.lt_iff_toInt_lt, ti_add, ti_sub, ti_mul, Int32.reduceToInt] at *; omega)))

set_option maxHeartbeats 4000000 in
set_option maxRecDepth 100000 in
theorem s_X12_isTouching_226 {N : Nat} (hN : 1048576 ≤ N) {x2 : Int32} {x3 : Int32} {σ0 : zS}  (hR : RF σ0.2.2) (hB : ZB σ0.1) (ha : 0 ≤ (σ0.1 218 20).toInt ∧ (σ0.1 218 20).toInt ≤ 1024) (h2 : 0 ≤ x2.toInt ∧ x2.toInt ≤ 17408) (h3 : 0 ≤ x3.toInt ∧ x3.toInt ≤ 1023) : Ok (f_X12_isTouching N 218 226 x2 x3 σ0) (fun r => Tr [] σ0 r.2 ∧ (r.1 = 0 ∨ r.1 = 1)) := by
  have hT : Tr [] σ0 σ0 := Tr.rf
  rw [f_X12_isTouching.eq_1]
  refine ok_lp (fun t : Int32 × zS => Tr [] σ0 (t.2) ∧ (0 ≤ (t.1).toInt) ∧ (ZB (t.2).1)) (fun t : Int32 × zS => (1024 - (t.1).toInt).toNat) (fun again1 t hI ih3_1 => ?_) N _ (show Tr [] σ0 σ0 ∧ (0 ≤ (0 : Int32).toInt) ∧ (ZB σ0.1) from ⟨hT, (by first | omega | decide | (simp only [Int32.le_iff_toInt_le, Int32.lt_iff_toInt_lt, ti_add, ti_sub, ti_mul, Int32.reduceToInt] at *; omega)), hB⟩) (show (1024 - (0 : Int32).toInt).toNat < N from (by first | omega | decide | (simp only [Int32.le_iff_toInt_le, Int32.lt_iff_toInt_lt, ti_add, ti_sub, ti_mul, Int32.reduceToInt] at *; omega)))
  obtain ⟨x4_1, σ1⟩ := t
  have hI : Tr [] σ0 σ1 ∧ (0 ≤ x4_1.toInt) ∧ (ZB σ1.1) := hI
  obtain ⟨hT, hI1, hB⟩ := hI
  rw [F_X12_isTouching_3.eq_1]
  refine ok_gI0 hT rfl (by decide) ?_
  refine ok_if (fun hc3 => ?_) (fun hc3 => ?_)
  · exact ok_rZ (Or.inr rfl) ⟨hT, (show (1 : Int32) = 0 ∨ (1 : Int32) = 1 from by first | exact Or.inl rfl | exact Or.inr rfl)⟩
  · refine ok_aIn rfl (by first | omega | decide | (simp only [Int32.le_iff_toInt_le, Int32.lt_iff_toInt_lt, ti_add, ti_sub, ti_mul, Int32.reduceToInt] at *; omega)) (by first | omega | decide | (simp only [Int32.le_iff_toInt_le, Int32.lt_iff_toInt_lt, ti_add, ti_sub, ti_mul, Int32.reduceToInt] at *; omega)) (fun v4 ev4 => ?_)
    have zv4 : v4 = 0 ∨ v4 = 1 := by rw [ev4]; exact hB 226 rfl _
    refine ok_if (fun hc5 => ?_) (fun hc5 => ?_)
    · exact ih3_1 (x4_1 + 1, σ1) (show Tr [] σ0 σ1 ∧ (0 ≤ (x4_1 + 1).toInt) ∧ (ZB σ1.1) from ⟨hT, (by first | omega | decide | (simp only [Int32.le_iff_toInt_le, Int32.lt_iff_toInt_lt, ti_add, ti_sub, ti_mul, Int32.reduceToInt] at *; omega)), hB⟩) (show (1024 - (x4_1 + 1).toInt).toNat < (1024 - x4_1.toInt).toNat from (by first | omega | decide | (simp only [Int32.le_iff_toInt_le, Int32.lt_iff_toInt_lt, ti_add, ti_sub, ti_mul, Int32.reduceToInt] at *; omega)))
    · refine ok_if (fun hc6 => ?_) (fun hc6 => ?_)
      · exact ok_rZ (Or.inl rfl) ⟨hT, (show (0 : Int32) = 0 ∨ (0 : Int32) = 1 from by first | exact Or.inl rfl | exact Or.inr rfl)⟩
      · exact ih3_1 (x4_1 + 1, σ1) (show Tr [] σ0 σ1 ∧ (0 ≤ (x4_1 + 1).toInt) ∧ (ZB σ1.1) from ⟨hT, (by first | omega | decide | (simp only [Int32.le_iff_toInt_le, Int32.lt_iff_toInt_lt, ti_add, ti_sub, ti_mul, Int32.reduceToInt] at *; omega)), hB⟩) (show (1024 - (x4_1 + 1).toInt).toNat < (1024 - x4_1.toInt).toNat from (by first | omega | decide | (simp only [Int32.le_iff_toInt_le, Int32.lt_iff_toInt_lt, ti_add, ti_sub, ti_mul, Int32.reduceToInt] at *; omega)))

set_option maxHeartbeats 4000000 in
set_option maxRecDepth 100000 in
theorem s_X12_isTouching_229 {N : Nat} (hN : 1048576 ≤ N) {x2 : Int32} {x3 : Int32} {σ0 : zS}  (hR : RF σ0.2.2) (hB : ZB σ0.1) (ha : 0 ≤ (σ0.1 218 20).toInt ∧ (σ0.1 218 20).toInt ≤ 1024) (h2 : 0 ≤ x2.toInt ∧ x2.toInt ≤ 0) (h3 : 0 ≤ x3.toInt ∧ x3.toInt ≤ 1023) : Ok (f_X12_isTouching N 218 229 x2 x3 σ0) (fun r => Tr [] σ0 r.2 ∧ (r.1 = 0 ∨ r.1 = 1)) := by
  have hT : Tr [] σ0 σ0 := Tr.rf
  rw [f_X12_isTouching.eq_1]
  refine ok_lp (fun t : Int32 × zS => Tr [] σ0 (t.2) ∧ (0 ≤ (t.1).toInt) ∧ (ZB (t.2).1)) (fun t : Int32 × zS => (1024 - (t.1).toInt).toNat) (fun again1 t hI ih3_1 => ?_) N _ (show Tr [] σ0 σ0 ∧ (0 ≤ (0 : Int32).toInt) ∧ (ZB σ0.1) from ⟨hT, (by first | omega | decide | (simp only [Int32.le_iff_toInt_le, Int32.lt_iff_toInt_lt, ti_add, ti_sub, ti_mul, Int32.reduceToInt] at *; omega)), hB⟩) (show (1024 - (0 : Int32).toInt).toNat < N from (by first | omega | decide | (simp only [Int32.le_iff_toInt_le, Int32.lt_iff_toInt_lt, ti_add, ti_sub, ti_mul, Int32.reduceToInt] at *; omega)))
  obtain ⟨x4_1, σ1⟩ := t
  have hI : Tr [] σ0 σ1 ∧ (0 ≤ x4_1.toInt) ∧ (ZB σ1.1) := hI
  obtain ⟨hT, hI1, hB⟩ := hI
  rw [F_X12_isTouching_3.eq_1]
  refine ok_gI0 hT rfl (by decide) ?_
  refine ok_if (fun hc3 => ?_) (fun hc3 => ?_)
  · exact ok_rZ (Or.inr rfl) ⟨hT, (show (1 : Int32) = 0 ∨ (1 : Int32) = 1 from by first | exact Or.inl rfl | exact Or.inr rfl)⟩
  · refine ok_aIn rfl (by first | omega | decide | (simp only [Int32.le_iff_toInt_le, Int32.lt_iff_toInt_lt, ti_add, ti_sub, ti_mul, Int32.reduceToInt] at *; omega)) (by first | omega | decide | (simp only [Int32.le_iff_toInt_le, Int32.lt_iff_toInt_lt, ti_add, ti_sub, ti_mul, Int32.reduceToInt] at *; omega)) (fun v4 ev4 => ?_)
    have zv4 : v4 = 0 ∨ v4 = 1 := by rw [ev4]; exact hB 229 rfl _
    refine ok_if (fun hc5 => ?_) (fun hc5 => ?_)
    · exact ih3_1 (x4_1 + 1, σ1) (show Tr [] σ0 σ1 ∧ (0 ≤ (x4_1 + 1).toInt) ∧ (ZB σ1.1) from ⟨hT, (by first | omega | decide | (simp only [Int32.le_iff_toInt_le, Int32.lt_iff_toInt_lt, ti_add, ti_sub, ti_mul, Int32.reduceToInt] at *; omega)), hB⟩) (show (1024 - (x4_1 + 1).toInt).toNat < (1024 - x4_1.toInt).toNat from (by first | omega | decide | (simp only [Int32.le_iff_toInt_le, Int32.lt_iff_toInt_lt, ti_add, ti_sub, ti_mul, Int32.reduceToInt] at *; omega)))
    · refine ok_if (fun hc6 => ?_) (fun hc6 => ?_)
      · exact ok_rZ (Or.inl rfl) ⟨hT, (show (0 : Int32) = 0 ∨ (0 : Int32) = 1 from by first | exact Or.inl rfl | exact Or.inr rfl)⟩
      · exact ih3_1 (x4_1 + 1, σ1) (show Tr [] σ0 σ1 ∧ (0 ≤ (x4_1 + 1).toInt) ∧ (ZB σ1.1) from ⟨hT, (by first | omega | decide | (simp only [Int32.le_iff_toInt_le, Int32.lt_iff_toInt_lt, ti_add, ti_sub, ti_mul, Int32.reduceToInt] at *; omega)), hB⟩) (show (1024 - (x4_1 + 1).toInt).toNat < (1024 - x4_1.toInt).toNat from (by first | omega | decide | (simp only [Int32.le_iff_toInt_le, Int32.lt_iff_toInt_lt, ti_add, ti_sub, ti_mul, Int32.reduceToInt] at *; omega)))

set_option maxHeartbeats 4000000 in
set_option maxRecDepth 100000 in
theorem s_X12_isNested_220 {N : Nat} (hN : 1048576 ≤ N) {x2 : Int32} {x3 : Int32} {x4 : Int32} {σ0 : zS}  (hR : RF σ0.2.2) (hB : ZB σ0.1) (ha : 0 ≤ (σ0.1 218 20).toInt ∧ (σ0.1 218 20).toInt ≤ 1024) (h2 : 0 ≤ x2.toInt ∧ x2.toInt ≤ 9216) : Ok (f_X12_isNested N 218 220 x2 x3 x4 σ0) (fun r => Tr [] σ0 r.2 ∧ (r.1 = 0 ∨ r.1 = 1)) := by
  have hT : Tr [] σ0 σ0 := Tr.rf
  rw [f_X12_isNested.eq_1]
  refine ok_lp (fun t : Int32 × zS => Tr [] σ0 (t.2) ∧ (0 ≤ (t.1).toInt) ∧ (ZB (t.2).1)) (fun t : Int32 × zS => (1024 - (t.1).toInt).toNat) (fun again1 t hI ih3_1 => ?_) N _ (show Tr [] σ0 σ0 ∧ (0 ≤ (0 : Int32).toInt) ∧ (ZB σ0.1) from ⟨hT, (by first | omega | decide | (simp only [Int32.le_iff_toInt_le, Int32.lt_iff_toInt_lt, ti_add, ti_sub, ti_mul, Int32.reduceToInt] at *; omega)), hB⟩) (show (1024 - (0 : Int32).toInt).toNat < N from (by first | omega | decide | (simp only [Int32.le_iff_toInt_le, Int32.lt_iff_toInt_lt, ti_add, ti_sub, ti_mul, Int32.reduceToInt] at *; omega)))
  obtain ⟨x5_1, σ1⟩ := t
  have hI : Tr [] σ0 σ1 ∧ (0 ≤ x5_1.toInt) ∧ (ZB σ1.1) := hI
  obtain ⟨hT, hI1, hB⟩ := hI
  rw [F_X12_isNested_3.eq_1]
  refine ok_gI0 hT rfl (by decide) ?_
  refine ok_if (fun hc3 => ?_) (fun hc3 => ?_)
  · exact ok_rZ (Or.inl rfl) ⟨hT, (show (0 : Int32) = 0 ∨ (0 : Int32) = 1 from by first | exact Or.inl rfl | exact Or.inr rfl)⟩
  · refine ok_if (fun hc4 => ?_) (fun hc4 => ?_)
    · exact ih3_1 (x5_1 + 1, σ1) (show Tr [] σ0 σ1 ∧ (0 ≤ (x5_1 + 1).toInt) ∧ (ZB σ1.1) from ⟨hT, (by first | omega | decide | (simp only [Int32.le_iff_toInt_le, Int32.lt_iff_toInt_lt, ti_add, ti_sub, ti_mul, Int32.reduceToInt] at *; omega)), hB⟩) (show (1024 - (x5_1 + 1).toInt).toNat < (1024 - x5_1.toInt).toNat from (by first | omega | decide | (simp only [Int32.le_iff_toInt_le, Int32.lt_iff_toInt_lt, ti_add, ti_sub, ti_mul, Int32.reduceToInt] at *; omega)))
    · refine ok_aIn rfl (by first | omega | decide | (simp only [Int32.le_iff_toInt_le, Int32.lt_iff_toInt_lt, ti_add, ti_sub, ti_mul, Int32.reduceToInt] at *; omega)) (by first | omega | decide | (simp only [Int32.le_iff_toInt_le, Int32.lt_iff_toInt_lt, ti_add, ti_sub, ti_mul, Int32.reduceToInt] at *; omega)) (fun v5 ev5 => ?_)
      have zv5 : v5 = 0 ∨ v5 = 1 := by rw [ev5]; exact hB 220 rfl _
      refine ok_if (fun hc6 => ?_) (fun hc6 => ?_)
      · exact ih3_1 (x5_1 + 1, σ1) (show Tr [] σ0 σ1 ∧ (0 ≤ (x5_1 + 1).toInt) ∧ (ZB σ1.1) from ⟨hT, (by first | omega | decide | (simp only [Int32.le_iff_toInt_le, Int32.lt_iff_toInt_lt, ti_add, ti_sub, ti_mul, Int32.reduceToInt] at *; omega)), hB⟩) (show (1024 - (x5_1 + 1).toInt).toNat < (1024 - x5_1.toInt).toNat from (by first | omega | decide | (simp only [Int32.le_iff_toInt_le, Int32.lt_iff_toInt_lt, ti_add, ti_sub, ti_mul, Int32.reduceToInt] at *; omega)))
      · refine ok_if (fun hc7 => ?_) (fun hc7 => ?_)
        · refine ok_if (fun hc8 => ?_) (fun hc8 => ?_)
          · exact ok_rZ (Or.inr rfl) ⟨hT, (show (1 : Int32) = 0 ∨ (1 : Int32) = 1 from by first | exact Or.inl rfl | exact Or.inr rfl)⟩
          · exact ih3_1 (x5_1 + 1, σ1) (show Tr [] σ0 σ1 ∧ (0 ≤ (x5_1 + 1).toInt) ∧ (ZB σ1.1) from ⟨hT, (by first | omega | decide | (simp only [Int32.le_iff_toInt_le, Int32.lt_iff_toInt_lt, ti_add, ti_sub, ti_mul, Int32.reduceToInt] at *; omega)), hB⟩) (show (1024 - (x5_1 + 1).toInt).toNat < (1024 - x5_1.toInt).toNat from (by first | omega | decide | (simp only [Int32.le_iff_toInt_le, Int32.lt_iff_toInt_lt, ti_add, ti_sub, ti_mul, Int32.reduceToInt] at *; omega)))
        · refine ok_if (fun hc9 => ?_) (fun hc9 => ?_)
          · exact ok_rZ (Or.inr rfl) ⟨hT, (show (1 : Int32) = 0 ∨ (1 : Int32) = 1 from by first | exact Or.inl rfl | exact Or.inr rfl)⟩
          · exact ih3_1 (x5_1 + 1, σ1) (show Tr [] σ0 σ1 ∧ (0 ≤ (x5_1 + 1).toInt) ∧ (ZB σ1.1) from ⟨hT, (by first | omega | decide | (simp only [Int32.le_iff_toInt_le, Int32.lt_iff_toInt_lt, ti_add, ti_sub, ti_mul, Int32.reduceToInt] at *; omega)), hB⟩) (show (1024 - (x5_1 + 1).toInt).toNat < (1024 - x5_1.toInt).toNat from (by first | omega | decide | (simp only [Int32.le_iff_toInt_le, Int32.lt_iff_toInt_lt, ti_add, ti_sub, ti_mul, Int32.reduceToInt] at *; omega)))

set_option maxHeartbeats 4000000 in
set_option maxRecDepth 100000 in
theorem s_X12_isNested_226 {N : Nat} (hN : 1048576 ≤ N) {x2 : Int32} {x3 : Int32} {x4 : Int32} {σ0 : zS}  (hR : RF σ0.2.2) (hB : ZB σ0.1) (ha : 0 ≤ (σ0.1 218 20).toInt ∧ (σ0.1 218 20).toInt ≤ 1024) (h2 : 0 ≤ x2.toInt ∧ x2.toInt ≤ 17408) : Ok (f_X12_isNested N 218 226 x2 x3 x4 σ0) (fun r => Tr [] σ0 r.2 ∧ (r.1 = 0 ∨ r.1 = 1)) := by
  have hT : Tr [] σ0 σ0 := Tr.rf
  rw [f_X12_isNested.eq_1]
  refine ok_lp (fun t : Int32 × zS => Tr [] σ0 (t.2) ∧ (0 ≤ (t.1).toInt) ∧ (ZB (t.2).1)) (fun t : Int32 × zS => (1024 - (t.1).toInt).toNat) (fun again1 t hI ih3_1 => ?_) N _ (show Tr [] σ0 σ0 ∧ (0 ≤ (0 : Int32).toInt) ∧ (ZB σ0.1) from ⟨hT, (by first | omega | decide | (simp only [Int32.le_iff_toInt_le, Int32.lt_iff_toInt_lt, ti_add, ti_sub, ti_mul, Int32.reduceToInt] at *; omega)), hB⟩) (show (1024 - (0 : Int32).toInt).toNat < N from (by first | omega | decide | (simp only [Int32.le_iff_toInt_le, Int32.lt_iff_toInt_lt, ti_add, ti_sub, ti_mul, Int32.reduceToInt] at *; omega)))
  obtain ⟨x5_1, σ1⟩ := t
  have hI : Tr [] σ0 σ1 ∧ (0 ≤ x5_1.toInt) ∧ (ZB σ1.1) := hI
  obtain ⟨hT, hI1, hB⟩ := hI
  rw [F_X12_isNested_3.eq_1]
  refine ok_gI0 hT rfl (by decide) ?_
  refine ok_if (fun hc3 => ?_) (fun hc3 => ?_)
  · exact ok_rZ (Or.inl rfl) ⟨hT, (show (0 : Int32) = 0 ∨ (0 : Int32) = 1 from by first | exact Or.inl rfl | exact Or.inr rfl)⟩
  · refine ok_if (fun hc4 => ?_) (fun hc4 => ?_)
    · exact ih3_1 (x5_1 + 1, σ1) (show Tr [] σ0 σ1 ∧ (0 ≤ (x5_1 + 1).toInt) ∧ (ZB σ1.1) from ⟨hT, (by first | omega | decide | (simp only [Int32.le_iff_toInt_le, Int32.lt_iff_toInt_lt, ti_add, ti_sub, ti_mul, Int32.reduceToInt] at *; omega)), hB⟩) (show (1024 - (x5_1 + 1).toInt).toNat < (1024 - x5_1.toInt).toNat from (by first | omega | decide | (simp only [Int32.le_iff_toInt_le, Int32.lt_iff_toInt_lt, ti_add, ti_sub, ti_mul, Int32.reduceToInt] at *; omega)))
    · refine ok_aIn rfl (by first | omega | decide | (simp only [Int32.le_iff_toInt_le, Int32.lt_iff_toInt_lt, ti_add, ti_sub, ti_mul, Int32.reduceToInt] at *; omega)) (by first | omega | decide | (simp only [Int32.le_iff_toInt_le, Int32.lt_iff_toInt_lt, ti_add, ti_sub, ti_mul, Int32.reduceToInt] at *; omega)) (fun v5 ev5 => ?_)
      have zv5 : v5 = 0 ∨ v5 = 1 := by rw [ev5]; exact hB 226 rfl _
      refine ok_if (fun hc6 => ?_) (fun hc6 => ?_)
      · exact ih3_1 (x5_1 + 1, σ1) (show Tr [] σ0 σ1 ∧ (0 ≤ (x5_1 + 1).toInt) ∧ (ZB σ1.1) from ⟨hT, (by first | omega | decide | (simp only [Int32.le_iff_toInt_le, Int32.lt_iff_toInt_lt, ti_add, ti_sub, ti_mul, Int32.reduceToInt] at *; omega)), hB⟩) (show (1024 - (x5_1 + 1).toInt).toNat < (1024 - x5_1.toInt).toNat from (by first | omega | decide | (simp only [Int32.le_iff_toInt_le, Int32.lt_iff_toInt_lt, ti_add, ti_sub, ti_mul, Int32.reduceToInt] at *; omega)))
      · refine ok_if (fun hc7 => ?_) (fun hc7 => ?_)
        · refine ok_if (fun hc8 => ?_) (fun hc8 => ?_)
          · exact ok_rZ (Or.inr rfl) ⟨hT, (show (1 : Int32) = 0 ∨ (1 : Int32) = 1 from by first | exact Or.inl rfl | exact Or.inr rfl)⟩
          · exact ih3_1 (x5_1 + 1, σ1) (show Tr [] σ0 σ1 ∧ (0 ≤ (x5_1 + 1).toInt) ∧ (ZB σ1.1) from ⟨hT, (by first | omega | decide | (simp only [Int32.le_iff_toInt_le, Int32.lt_iff_toInt_lt, ti_add, ti_sub, ti_mul, Int32.reduceToInt] at *; omega)), hB⟩) (show (1024 - (x5_1 + 1).toInt).toNat < (1024 - x5_1.toInt).toNat from (by first | omega | decide | (simp only [Int32.le_iff_toInt_le, Int32.lt_iff_toInt_lt, ti_add, ti_sub, ti_mul, Int32.reduceToInt] at *; omega)))
        · refine ok_if (fun hc9 => ?_) (fun hc9 => ?_)
          · exact ok_rZ (Or.inr rfl) ⟨hT, (show (1 : Int32) = 0 ∨ (1 : Int32) = 1 from by first | exact Or.inl rfl | exact Or.inr rfl)⟩
          · exact ih3_1 (x5_1 + 1, σ1) (show Tr [] σ0 σ1 ∧ (0 ≤ (x5_1 + 1).toInt) ∧ (ZB σ1.1) from ⟨hT, (by first | omega | decide | (simp only [Int32.le_iff_toInt_le, Int32.lt_iff_toInt_lt, ti_add, ti_sub, ti_mul, Int32.reduceToInt] at *; omega)), hB⟩) (show (1024 - (x5_1 + 1).toInt).toNat < (1024 - x5_1.toInt).toNat from (by first | omega | decide | (simp only [Int32.le_iff_toInt_le, Int32.lt_iff_toInt_lt, ti_add, ti_sub, ti_mul, Int32.reduceToInt] at *; omega)))

set_option maxHeartbeats 4000000 in
set_option maxRecDepth 100000 in
theorem s_X12_isNested_229 {N : Nat} (hN : 1048576 ≤ N) {x2 : Int32} {x3 : Int32} {x4 : Int32} {σ0 : zS}  (hR : RF σ0.2.2) (hB : ZB σ0.1) (ha : 0 ≤ (σ0.1 218 20).toInt ∧ (σ0.1 218 20).toInt ≤ 1024) (h2 : 0 ≤ x2.toInt ∧ x2.toInt ≤ 0) : Ok (f_X12_isNested N 218 229 x2 x3 x4 σ0) (fun r => Tr [] σ0 r.2 ∧ (r.1 = 0 ∨ r.1 = 1)) := by
  have hT : Tr [] σ0 σ0 := Tr.rf
  rw [f_X12_isNested.eq_1]
  refine ok_lp (fun t : Int32 × zS => Tr [] σ0 (t.2) ∧ (0 ≤ (t.1).toInt) ∧ (ZB (t.2).1)) (fun t : Int32 × zS => (1024 - (t.1).toInt).toNat) (fun again1 t hI ih3_1 => ?_) N _ (show Tr [] σ0 σ0 ∧ (0 ≤ (0 : Int32).toInt) ∧ (ZB σ0.1) from ⟨hT, (by first | omega | decide | (simp only [Int32.le_iff_toInt_le, Int32.lt_iff_toInt_lt, ti_add, ti_sub, ti_mul, Int32.reduceToInt] at *; omega)), hB⟩) (show (1024 - (0 : Int32).toInt).toNat < N from (by first | omega | decide | (simp only [Int32.le_iff_toInt_le, Int32.lt_iff_toInt_lt, ti_add, ti_sub, ti_mul, Int32.reduceToInt] at *; omega)))
  obtain ⟨x5_1, σ1⟩ := t
  have hI : Tr [] σ0 σ1 ∧ (0 ≤ x5_1.toInt) ∧ (ZB σ1.1) := hI
  obtain ⟨hT, hI1, hB⟩ := hI
  rw [F_X12_isNested_3.eq_1]
  refine ok_gI0 hT rfl (by decide) ?_
  refine ok_if (fun hc3 => ?_) (fun hc3 => ?_)
  · exact ok_rZ (Or.inl rfl) ⟨hT, (show (0 : Int32) = 0 ∨ (0 : Int32) = 1 from by first | exact Or.inl rfl | exact Or.inr rfl)⟩
  · refine ok_if (fun hc4 => ?_) (fun hc4 => ?_)
    · exact ih3_1 (x5_1 + 1, σ1) (show Tr [] σ0 σ1 ∧ (0 ≤ (x5_1 + 1).toInt) ∧ (ZB σ1.1) from ⟨hT, (by first | omega | decide | (simp only [Int32.le_iff_toInt_le, Int32.lt_iff_toInt_lt, ti_add, ti_sub, ti_mul, Int32.reduceToInt] at *; omega)), hB⟩) (show (1024 - (x5_1 + 1).toInt).toNat < (1024 - x5_1.toInt).toNat from (by first | omega | decide | (simp only [Int32.le_iff_toInt_le, Int32.lt_iff_toInt_lt, ti_add, ti_sub, ti_mul, Int32.reduceToInt] at *; omega)))
    · refine ok_aIn rfl (by first | omega | decide | (simp only [Int32.le_iff_toInt_le, Int32.lt_iff_toInt_lt, ti_add, ti_sub, ti_mul, Int32.reduceToInt] at *; omega)) (by first | omega | decide | (simp only [Int32.le_iff_toInt_le, Int32.lt_iff_toInt_lt, ti_add, ti_sub, ti_mul, Int32.reduceToInt] at *; omega)) (fun v5 ev5 => ?_)
      have zv5 : v5 = 0 ∨ v5 = 1 := by rw [ev5]; exact hB 229 rfl _
      refine ok_if (fun hc6 => ?_) (fun hc6 => ?_)
      · exact ih3_1 (x5_1 + 1, σ1) (show Tr [] σ0 σ1 ∧ (0 ≤ (x5_1 + 1).toInt) ∧ (ZB σ1.1) from ⟨hT, (by first | omega | decide | (simp only [Int32.le_iff_toInt_le, Int32.lt_iff_toInt_lt, ti_add, ti_sub, ti_mul, Int32.reduceToInt] at *; omega)), hB⟩) (show (1024 - (x5_1 + 1).toInt).toNat < (1024 - x5_1.toInt).toNat from (by first | omega | decide | (simp only [Int32.le_iff_toInt_le, Int32.lt_iff_toInt_lt, ti_add, ti_sub, ti_mul, Int32.reduceToInt] at *; omega)))
      · refine ok_if (fun hc7 => ?_) (fun hc7 => ?_)
        · refine ok_if (fun hc8 => ?_) (fun hc8 => ?_)
          · exact ok_rZ (Or.inr rfl) ⟨hT, (show (1 : Int32) = 0 ∨ (1 : Int32) = 1 from by first | exact Or.inl rfl | exact Or.inr rfl)⟩
          · exact ih3_1 (x5_1 + 1, σ1) (show Tr [] σ0 σ1 ∧ (0 ≤ (x5_1 + 1).toInt) ∧ (ZB σ1.1) from ⟨hT, (by first | omega | decide | (simp only [Int32.le_iff_toInt_le, Int32.lt_iff_toInt_lt, ti_add, ti_sub, ti_mul, Int32.reduceToInt] at *; omega)), hB⟩) (show (1024 - (x5_1 + 1).toInt).toNat < (1024 - x5_1.toInt).toNat from (by first | omega | decide | (simp only [Int32.le_iff_toInt_le, Int32.lt_iff_toInt_lt, ti_add, ti_sub, ti_mul, Int32.reduceToInt] at *; omega)))
        · refine ok_if (fun hc9 => ?_) (fun hc9 => ?_)
          · exact ok_rZ (Or.inr rfl) ⟨hT, (show (1 : Int32) = 0 ∨ (1 : Int32) = 1 from by first | exact Or.inl rfl | exact Or.inr rfl)⟩
          · exact ih3_1 (x5_1 + 1, σ1) (show Tr [] σ0 σ1 ∧ (0 ≤ (x5_1 + 1).toInt) ∧ (ZB σ1.1) from ⟨hT, (by first | omega | decide | (simp only [Int32.le_iff_toInt_le, Int32.lt_iff_toInt_lt, ti_add, ti_sub, ti_mul, Int32.reduceToInt] at *; omega)), hB⟩) (show (1024 - (x5_1 + 1).toInt).toNat < (1024 - x5_1.toInt).toNat from (by first | omega | decide | (simp only [Int32.le_iff_toInt_le, Int32.lt_iff_toInt_lt, ti_add, ti_sub, ti_mul, Int32.reduceToInt] at *; omega)))

set_option maxHeartbeats 4000000 in
set_option maxRecDepth 100000 in
theorem s_X12_isNested_228 {N : Nat} (hN : 1048576 ≤ N) {x2 : Int32} {x3 : Int32} {x4 : Int32} {σ0 : zS}  (hR : RF σ0.2.2) (hB : ZB σ0.1) (ha : 0 ≤ (σ0.1 218 20).toInt ∧ (σ0.1 218 20).toInt ≤ 1024) (h2 : 0 ≤ x2.toInt ∧ x2.toInt ≤ 0) : Ok (f_X12_isNested N 218 228 x2 x3 x4 σ0) (fun r => Tr [] σ0 r.2 ∧ (r.1 = 0 ∨ r.1 = 1)) := by
  have hT : Tr [] σ0 σ0 := Tr.rf
  rw [f_X12_isNested.eq_1]
  refine ok_lp (fun t : Int32 × zS => Tr [] σ0 (t.2) ∧ (0 ≤ (t.1).toInt) ∧ (ZB (t.2).1)) (fun t : Int32 × zS => (1024 - (t.1).toInt).toNat) (fun again1 t hI ih3_1 => ?_) N _ (show Tr [] σ0 σ0 ∧ (0 ≤ (0 : Int32).toInt) ∧ (ZB σ0.1) from ⟨hT, (by first | omega | decide | (simp only [Int32.le_iff_toInt_le, Int32.lt_iff_toInt_lt, ti_add, ti_sub, ti_mul, Int32.reduceToInt] at *; omega)), hB⟩) (show (1024 - (0 : Int32).toInt).toNat < N from (by first | omega | decide | (simp only [Int32.le_iff_toInt_le, Int32.lt_iff_toInt_lt, ti_add, ti_sub, ti_mul, Int32.reduceToInt] at *; omega)))
  obtain ⟨x5_1, σ1⟩ := t
  have hI : Tr [] σ0 σ1 ∧ (0 ≤ x5_1.toInt) ∧ (ZB σ1.1) := hI
  obtain ⟨hT, hI1, hB⟩ := hI
  rw [F_X12_isNested_3.eq_1]
  refine ok_gI0 hT rfl (by decide) ?_
  refine ok_if (fun hc3 => ?_) (fun hc3 => ?_)
  · exact ok_rZ (Or.inl rfl) ⟨hT, (show (0 : Int32) = 0 ∨ (0 : Int32) = 1 from by first | exact Or.inl rfl | exact Or.inr rfl)⟩
  · refine ok_if (fun hc4 => ?_) (fun hc4 => ?_)
    · exact ih3_1 (x5_1 + 1, σ1) (show Tr [] σ0 σ1 ∧ (0 ≤ (x5_1 + 1).toInt) ∧ (ZB σ1.1) from ⟨hT, (by first | omega | decide | (simp only [Int32.le_iff_toInt_le, Int32.lt_iff_toInt_lt, ti_add, ti_sub, ti_mul, Int32.reduceToInt] at *; omega)), hB⟩) (show (1024 - (x5_1 + 1).toInt).toNat < (1024 - x5_1.toInt).toNat from (by first | omega | decide | (simp only [Int32.le_iff_toInt_le, Int32.lt_iff_toInt_lt, ti_add, ti_sub, ti_mul, Int32.reduceToInt] at *; omega)))
    · refine ok_aIn rfl (by first | omega | decide | (simp only [Int32.le_iff_toInt_le, Int32.lt_iff_toInt_lt, ti_add, ti_sub, ti_mul, Int32.reduceToInt] at *; omega)) (by first | omega | decide | (simp only [Int32.le_iff_toInt_le, Int32.lt_iff_toInt_lt, ti_add, ti_sub, ti_mul, Int32.reduceToInt] at *; omega)) (fun v5 ev5 => ?_)
      have zv5 : v5 = 0 ∨ v5 = 1 := by rw [ev5]; exact hB 228 rfl _
      refine ok_if (fun hc6 => ?_) (fun hc6 => ?_)
      · exact ih3_1 (x5_1 + 1, σ1) (show Tr [] σ0 σ1 ∧ (0 ≤ (x5_1 + 1).toInt) ∧ (ZB σ1.1) from ⟨hT, (by first | omega | decide | (simp only [Int32.le_iff_toInt_le, Int32.lt_iff_toInt_lt, ti_add, ti_sub, ti_mul, Int32.reduceToInt] at *; omega)), hB⟩) (show (1024 - (x5_1 + 1).toInt).toNat < (1024 - x5_1.toInt).toNat from (by first | omega | decide | (simp only [Int32.le_iff_toInt_le, Int32.lt_iff_toInt_lt, ti_add, ti_sub, ti_mul, Int32.reduceToInt] at *; omega)))
      · refine ok_if (fun hc7 => ?_) (fun hc7 => ?_)
        · refine ok_if (fun hc8 => ?_) (fun hc8 => ?_)
          · exact ok_rZ (Or.inr rfl) ⟨hT, (show (1 : Int32) = 0 ∨ (1 : Int32) = 1 from by first | exact Or.inl rfl | exact Or.inr rfl)⟩
          · exact ih3_1 (x5_1 + 1, σ1) (show Tr [] σ0 σ1 ∧ (0 ≤ (x5_1 + 1).toInt) ∧ (ZB σ1.1) from ⟨hT, (by first | omega | decide | (simp only [Int32.le_iff_toInt_le, Int32.lt_iff_toInt_lt, ti_add, ti_sub, ti_mul, Int32.reduceToInt] at *; omega)), hB⟩) (show (1024 - (x5_1 + 1).toInt).toNat < (1024 - x5_1.toInt).toNat from (by first | omega | decide | (simp only [Int32.le_iff_toInt_le, Int32.lt_iff_toInt_lt, ti_add, ti_sub, ti_mul, Int32.reduceToInt] at *; omega)))
        · refine ok_if (fun hc9 => ?_) (fun hc9 => ?_)
          · exact ok_rZ (Or.inr rfl) ⟨hT, (show (1 : Int32) = 0 ∨ (1 : Int32) = 1 from by first | exact Or.inl rfl | exact Or.inr rfl)⟩
          · exact ih3_1 (x5_1 + 1, σ1) (show Tr [] σ0 σ1 ∧ (0 ≤ (x5_1 + 1).toInt) ∧ (ZB σ1.1) from ⟨hT, (by first | omega | decide | (simp only [Int32.le_iff_toInt_le, Int32.lt_iff_toInt_lt, ti_add, ti_sub, ti_mul, Int32.reduceToInt] at *; omega)), hB⟩) (show (1024 - (x5_1 + 1).toInt).toNat < (1024 - x5_1.toInt).toNat from (by first | omega | decide | (simp only [Int32.le_iff_toInt_le, Int32.lt_iff_toInt_lt, ti_add, ti_sub, ti_mul, Int32.reduceToInt] at *; omega)))

set_option maxHeartbeats 4000000 in
set_option maxRecDepth 100000 in
theorem s_X12_turns__228 {N : Nat} (hN : 1048576 ≤ N)  {σ0 : zS}  (hR : RF σ0.2.2) (hB : ZB σ0.1) (ha : 0 ≤ (σ0.1 218 20).toInt ∧ (σ0.1 218 20).toInt ≤ 1024) : Ok (f_X12_turns_ N 218 228 σ0) (fun r => Tr [227] σ0 r.2 ∧ (ZB r.2.1)) := by
  have hT : Tr [227] σ0 σ0 := Tr.rf
  rw [f_X12_turns_.eq_1]
  refine ok_lp (fun t : Int32 × zS => Tr [227] σ0 (t.2) ∧ (0 ≤ (t.1).toInt) ∧ (ZB (t.2).1)) (fun t : Int32 × zS => ((1024 : Int32).toInt - (t.1).toInt).toNat) (fun again1 t hI ih2_1 => ?_) N _ (show Tr [227] σ0 σ0 ∧ (0 ≤ (0 : Int32).toInt) ∧ (ZB σ0.1) from ⟨hT, (by first | omega | decide | (simp only [Int32.le_iff_toInt_le, Int32.lt_iff_toInt_lt, ti_add, ti_sub, ti_mul, Int32.reduceToInt] at *; omega)), hB⟩) (show ((1024 : Int32).toInt - (0 : Int32).toInt).toNat < N from (by first | omega | decide | (simp only [Int32.le_iff_toInt_le, Int32.lt_iff_toInt_lt, ti_add, ti_sub, ti_mul, Int32.reduceToInt] at *; omega)))
  obtain ⟨x2_1, σ1⟩ := t
  have hI : Tr [227] σ0 σ1 ∧ (0 ≤ x2_1.toInt) ∧ (ZB σ1.1) := hI
  obtain ⟨hT, hI1, hB⟩ := hI
  rw [F_X12_turns__2.eq_1]
  refine ok_if (fun hc2 => ?_) (fun hc2 => ?_)
  · exact ok_some ⟨hT, (show ZB σ1.1 from by exact hB)⟩
  · refine ok_gR (v := 227) hT rfl (hR 218 17 rfl) ?_
    refine ok_gI0 hT rfl (by decide) ?_
    refine ok_if (fun hc5 => ?_) (fun hc5 => ?_)
    · refine ok_s16 hT rfl (by decide) (by first | omega | decide | (simp only [Int32.le_iff_toInt_le, Int32.lt_iff_toInt_lt, ti_add, ti_sub, ti_mul, Int32.reduceToInt] at *; omega)) (by first | omega | decide | (simp only [Int32.le_iff_toInt_le, Int32.lt_iff_toInt_lt, ti_add, ti_sub, ti_mul, Int32.reduceToInt] at *; omega)) (fun σ6 eσ6 hOσ6 hT => ?_)
      have hB : ZB σ6.1 := ZB_s eσ6 hB
      exact ih2_1 (x2_1 + 1, σ6) (show Tr [227] σ0 σ6 ∧ (0 ≤ (x2_1 + 1).toInt) ∧ (ZB σ6.1) from ⟨hT, (by first | omega | decide | (simp only [Int32.le_iff_toInt_le, Int32.lt_iff_toInt_lt, ti_add, ti_sub, ti_mul, Int32.reduceToInt] at *; omega)), hB⟩) (show ((1024 : Int32).toInt - (x2_1 + 1).toInt).toNat < ((1024 : Int32).toInt - x2_1.toInt).toNat from (by first | omega | decide | (simp only [Int32.le_iff_toInt_le, Int32.lt_iff_toInt_lt, ti_add, ti_sub, ti_mul, Int32.reduceToInt] at *; omega)))
    · refine ok_aIn rfl (by first | omega | decide | (simp only [Int32.le_iff_toInt_le, Int32.lt_iff_toInt_lt, ti_add, ti_sub, ti_mul, Int32.reduceToInt] at *; omega)) (by first | omega | decide | (simp only [Int32.le_iff_toInt_le, Int32.lt_iff_toInt_lt, ti_add, ti_sub, ti_mul, Int32.reduceToInt] at *; omega)) (fun v7 ev7 => ?_)
      have zv7 : v7 = 0 ∨ v7 = 1 := by rw [ev7]; exact hB 228 rfl _
      refine ok_if (fun hc8 => ?_) (fun hc8 => ?_)
      · refine ok_s16 hT rfl (by decide) (by first | omega | decide | (simp only [Int32.le_iff_toInt_le, Int32.lt_iff_toInt_lt, ti_add, ti_sub, ti_mul, Int32.reduceToInt] at *; omega)) (by first | omega | decide | (simp only [Int32.le_iff_toInt_le, Int32.lt_iff_toInt_lt, ti_add, ti_sub, ti_mul, Int32.reduceToInt] at *; omega)) (fun σ9 eσ9 hOσ9 hT => ?_)
        have hB : ZB σ9.1 := ZB_s eσ9 hB
        exact ih2_1 (x2_1 + 1, σ9) (show Tr [227] σ0 σ9 ∧ (0 ≤ (x2_1 + 1).toInt) ∧ (ZB σ9.1) from ⟨hT, (by first | omega | decide | (simp only [Int32.le_iff_toInt_le, Int32.lt_iff_toInt_lt, ti_add, ti_sub, ti_mul, Int32.reduceToInt] at *; omega)), hB⟩) (show ((1024 : Int32).toInt - (x2_1 + 1).toInt).toNat < ((1024 : Int32).toInt - x2_1.toInt).toNat from (by first | omega | decide | (simp only [Int32.le_iff_toInt_le, Int32.lt_iff_toInt_lt, ti_add, ti_sub, ti_mul, Int32.reduceToInt] at *; omega)))
      · refine ok_gC rfl ?_
        refine ok_zbT (Q := fun V σ => V = 0 ∨ V = 1) hT (s_X12_isNested_228 hN (hR.tr hT) (hB) (by first | exact ha | (rw [hT.2 218 (by decide)]; exact ha)) (by first | omega | decide | (simp only [Int32.le_iff_toInt_le, Int32.lt_iff_toInt_lt, ti_add, ti_sub, ti_mul, Int32.reduceToInt] at *; omega))) (fun _ h9 => absurd h9 List.not_mem_nil) (fun v10 σ11 hOσ11 hT hqv10 => ?_)
        have hqv10 : v10 = 0 ∨ v10 = 1 := hqv10
        have hB : ZB σ11.1 := ZB.tr hOσ11 (by decide) hB
        refine ok_if (fun hc12 => ?_) (fun hc12 => ?_)
        · refine ok_s16 hT rfl (by decide) (by first | omega | decide | (simp only [Int32.le_iff_toInt_le, Int32.lt_iff_toInt_lt, ti_add, ti_sub, ti_mul, Int32.reduceToInt] at *; omega)) (by first | omega | decide | (simp only [Int32.le_iff_toInt_le, Int32.lt_iff_toInt_lt, ti_add, ti_sub, ti_mul, Int32.reduceToInt] at *; omega)) (fun σ13 eσ13 hOσ13 hT => ?_)
          have hB : ZB σ13.1 := ZB_s eσ13 hB
          exact ih2_1 (x2_1 + 1, σ13) (show Tr [227] σ0 σ13 ∧ (0 ≤ (x2_1 + 1).toInt) ∧ (ZB σ13.1) from ⟨hT, (by first | omega | decide | (simp only [Int32.le_iff_toInt_le, Int32.lt_iff_toInt_lt, ti_add, ti_sub, ti_mul, Int32.reduceToInt] at *; omega)), hB⟩) (show ((1024 : Int32).toInt - (x2_1 + 1).toInt).toNat < ((1024 : Int32).toInt - x2_1.toInt).toNat from (by first | omega | decide | (simp only [Int32.le_iff_toInt_le, Int32.lt_iff_toInt_lt, ti_add, ti_sub, ti_mul, Int32.reduceToInt] at *; omega)))
        · refine ok_s16 hT rfl (by decide) (by first | omega | decide | (simp only [Int32.le_iff_toInt_le, Int32.lt_iff_toInt_lt, ti_add, ti_sub, ti_mul, Int32.reduceToInt] at *; omega)) (by first | omega | decide | (simp only [Int32.le_iff_toInt_le, Int32.lt_iff_toInt_lt, ti_add, ti_sub, ti_mul, Int32.reduceToInt] at *; omega)) (fun σ14 eσ14 hOσ14 hT => ?_)
          have hB : ZB σ14.1 := ZB_s eσ14 hB
          exact ih2_1 (x2_1 + 1, σ14) (show Tr [227] σ0 σ14 ∧ (0 ≤ (x2_1 + 1).toInt) ∧ (ZB σ14.1) from ⟨hT, (by first | omega | decide | (simp only [Int32.le_iff_toInt_le, Int32.lt_iff_toInt_lt, ti_add, ti_sub, ti_mul, Int32.reduceToInt] at *; omega)), hB⟩) (show ((1024 : Int32).toInt - (x2_1 + 1).toInt).toNat < ((1024 : Int32).toInt - x2_1.toInt).toNat from (by first | omega | decide | (simp only [Int32.le_iff_toInt_le, Int32.lt_iff_toInt_lt, ti_add, ti_sub, ti_mul, Int32.reduceToInt] at *; omega)))

set_option maxHeartbeats 4000000 in
set_option maxRecDepth 100000 in
theorem s_X12_gives_220_220 {N : Nat} (hN : 1048576 ≤ N) {x1 : Int32} {x3 : Int32} {x5 : Int32} {σ0 : zS}  (hR : RF σ0.2.2) (hB : ZB σ0.1) (ha : 0 ≤ (σ0.1 218 20).toInt ∧ (σ0.1 218 20).toInt ≤ 1024) (h3 : 0 ≤ x3.toInt ∧ x3.toInt ≤ 9216) (h5 : 0 ≤ x5.toInt ∧ x5.toInt ≤ 9216) : Ok (f_X12_gives N 218 x1 220 x3 220 x5 σ0) (fun r => Tr [227, 228, 229] σ0 r.2 ∧ (ZB r.2.1)) := by
  have hT : Tr [227, 228, 229] σ0 σ0 := Tr.rf
  rw [f_X12_gives.eq_1]
  refine ok_if (fun hc1 => ?_) (fun hc1 => ?_)
  · refine ok_gR (v := 227) hT rfl (hR 218 17 rfl) ?_
    refine ok_gC rfl ?_
    refine ok_zbT (Q := fun V σ => ZB σ.1) hT (s_X12_joins_220_220_227 hN (hR.tr hT) (hB) (by first | exact ha | (rw [hT.2 218 (by decide)]; exact ha)) (by first | omega | decide | (simp only [Int32.le_iff_toInt_le, Int32.lt_iff_toInt_lt, ti_add, ti_sub, ti_mul, Int32.reduceToInt] at *; omega)) (by first | omega | decide | (simp only [Int32.le_iff_toInt_le, Int32.lt_iff_toInt_lt, ti_add, ti_sub, ti_mul, Int32.reduceToInt] at *; omega))) (by decide) (fun v3 σ4 hOσ4 hT hqv3 => ?_)
    have hqv3 : ZB σ4.1 := hqv3
    have hB : ZB σ4.1 := by first | exact hqv3 | exact ZB_s eσ4 hB
    exact ok_some ⟨hT, (show ZB σ4.1 from by exact hB)⟩
  · refine ok_if (fun hc5 => ?_) (fun hc5 => ?_)
    · refine ok_lp (fun t : Int32 × zS => Tr [227, 228, 229] σ0 (t.2) ∧ (0 ≤ (t.1).toInt) ∧ (ZB (t.2).1)) (fun t : Int32 × zS => ((1024 : Int32).toInt - (t.1).toInt).toNat) (fun again6 t hI ih28_6 => ?_) N _ (show Tr [227, 228, 229] σ0 σ0 ∧ (0 ≤ (0 : Int32).toInt) ∧ (ZB σ0.1) from ⟨hT, (by first | omega | decide | (simp only [Int32.le_iff_toInt_le, Int32.lt_iff_toInt_lt, ti_add, ti_sub, ti_mul, Int32.reduceToInt] at *; omega)), hB⟩) (show ((1024 : Int32).toInt - (0 : Int32).toInt).toNat < N from (by first | omega | decide | (simp only [Int32.le_iff_toInt_le, Int32.lt_iff_toInt_lt, ti_add, ti_sub, ti_mul, Int32.reduceToInt] at *; omega)))
      obtain ⟨x6_6, σ6⟩ := t
      have hI : Tr [227, 228, 229] σ0 σ6 ∧ (0 ≤ x6_6.toInt) ∧ (ZB σ6.1) := hI
      obtain ⟨hT, hI6, hB⟩ := hI
      rw [F_X12_gives_28.eq_1]
      refine ok_if (fun hc7 => ?_) (fun hc7 => ?_)
      · refine ok_gR (v := 228) hT rfl (hR 218 18 rfl) ?_
        refine ok_gR (v := 229) hT rfl (hR 218 19 rfl) ?_
        refine ok_gC rfl ?_
        refine ok_zbT (Q := fun V σ => ZB σ.1) hT (s_X12_joins_220_228_229 hN (hR.tr hT) (hB) (by first | exact ha | (rw [hT.2 218 (by decide)]; exact ha)) (by first | omega | decide | (simp only [Int32.le_iff_toInt_le, Int32.lt_iff_toInt_lt, ti_add, ti_sub, ti_mul, Int32.reduceToInt] at *; omega)) (by first | omega | decide | (simp only [Int32.le_iff_toInt_le, Int32.lt_iff_toInt_lt, ti_add, ti_sub, ti_mul, Int32.reduceToInt] at *; omega))) (by decide) (fun v10 σ11 hOσ11 hT hqv10 => ?_)
        have hqv10 : ZB σ11.1 := hqv10
        have hB : ZB σ11.1 := by first | exact hqv10 | exact ZB_s eσ11 hB
        refine ok_lp (fun t : Int32 × zS => Tr [227, 228, 229] σ0 (t.2) ∧ (0 ≤ (t.1).toInt) ∧ (ZB (t.2).1)) (fun t : Int32 × zS => ((1024 : Int32).toInt - (t.1).toInt).toNat) (fun again12 t hI ih98_12 => ?_) N _ (show Tr [227, 228, 229] σ0 σ11 ∧ (0 ≤ (0 : Int32).toInt) ∧ (ZB σ11.1) from ⟨hT, (by first | omega | decide | (simp only [Int32.le_iff_toInt_le, Int32.lt_iff_toInt_lt, ti_add, ti_sub, ti_mul, Int32.reduceToInt] at *; omega)), hB⟩) (show ((1024 : Int32).toInt - (0 : Int32).toInt).toNat < N from (by first | omega | decide | (simp only [Int32.le_iff_toInt_le, Int32.lt_iff_toInt_lt, ti_add, ti_sub, ti_mul, Int32.reduceToInt] at *; omega)))
        obtain ⟨x6_12, σ12⟩ := t
        have hI : Tr [227, 228, 229] σ0 σ12 ∧ (0 ≤ x6_12.toInt) ∧ (ZB σ12.1) := hI
        obtain ⟨hT, hI12, hB⟩ := hI
        rw [F_X12_gives_98.eq_1]
        refine ok_if (fun hc13 => ?_) (fun hc13 => ?_)
        · exact ok_some ⟨hT, (show ZB σ12.1 from by exact hB)⟩
        · refine ok_gR (v := 227) hT rfl (hR 218 17 rfl) ?_
          refine ok_gI0 hT rfl (by decide) ?_
          refine ok_if (fun hc16 => ?_) (fun hc16 => ?_)
          · refine ok_s16 hT rfl (by decide) (by first | omega | decide | (simp only [Int32.le_iff_toInt_le, Int32.lt_iff_toInt_lt, ti_add, ti_sub, ti_mul, Int32.reduceToInt] at *; omega)) (by first | omega | decide | (simp only [Int32.le_iff_toInt_le, Int32.lt_iff_toInt_lt, ti_add, ti_sub, ti_mul, Int32.reduceToInt] at *; omega)) (fun σ17 eσ17 hOσ17 hT => ?_)
            have hB : ZB σ17.1 := by first | exact HQ | exact ZB_s eσ17 hB
            exact ih98_12 (x6_12 + 1, σ17) (show Tr [227, 228, 229] σ0 σ17 ∧ (0 ≤ (x6_12 + 1).toInt) ∧ (ZB σ17.1) from ⟨hT, (by first | omega | decide | (simp only [Int32.le_iff_toInt_le, Int32.lt_iff_toInt_lt, ti_add, ti_sub, ti_mul, Int32.reduceToInt] at *; omega)), hB⟩) (show ((1024 : Int32).toInt - (x6_12 + 1).toInt).toNat < ((1024 : Int32).toInt - x6_12.toInt).toNat from (by first | omega | decide | (simp only [Int32.le_iff_toInt_le, Int32.lt_iff_toInt_lt, ti_add, ti_sub, ti_mul, Int32.reduceToInt] at *; omega)))
          · refine ok_aIn rfl (by first | omega | decide | (simp only [Int32.le_iff_toInt_le, Int32.lt_iff_toInt_lt, ti_add, ti_sub, ti_mul, Int32.reduceToInt] at *; omega)) (by first | omega | decide | (simp only [Int32.le_iff_toInt_le, Int32.lt_iff_toInt_lt, ti_add, ti_sub, ti_mul, Int32.reduceToInt] at *; omega)) (fun v18 ev18 => ?_)
            have zv18 : v18 = 0 ∨ v18 = 1 := by rw [ev18]; exact hB 220 rfl _
            refine ok_if (fun hc19 => ?_) (fun hc19 => ?_)
            · refine ok_s16 hT rfl (by decide) (by first | omega | decide | (simp only [Int32.le_iff_toInt_le, Int32.lt_iff_toInt_lt, ti_add, ti_sub, ti_mul, Int32.reduceToInt] at *; omega)) (by first | omega | decide | (simp only [Int32.le_iff_toInt_le, Int32.lt_iff_toInt_lt, ti_add, ti_sub, ti_mul, Int32.reduceToInt] at *; omega)) (fun σ20 eσ20 hOσ20 hT => ?_)
              have hB : ZB σ20.1 := by first | exact HQ | exact ZB_s eσ20 hB
              exact ih98_12 (x6_12 + 1, σ20) (show Tr [227, 228, 229] σ0 σ20 ∧ (0 ≤ (x6_12 + 1).toInt) ∧ (ZB σ20.1) from ⟨hT, (by first | omega | decide | (simp only [Int32.le_iff_toInt_le, Int32.lt_iff_toInt_lt, ti_add, ti_sub, ti_mul, Int32.reduceToInt] at *; omega)), hB⟩) (show ((1024 : Int32).toInt - (x6_12 + 1).toInt).toNat < ((1024 : Int32).toInt - x6_12.toInt).toNat from (by first | omega | decide | (simp only [Int32.le_iff_toInt_le, Int32.lt_iff_toInt_lt, ti_add, ti_sub, ti_mul, Int32.reduceToInt] at *; omega)))
            · refine ok_gR (v := 229) hT rfl (hR 218 19 rfl) ?_
              refine ok_aIn rfl (by first | omega | decide | (simp only [Int32.le_iff_toInt_le, Int32.lt_iff_toInt_lt, ti_add, ti_sub, ti_mul, Int32.reduceToInt] at *; omega)) (by first | omega | decide | (simp only [Int32.le_iff_toInt_le, Int32.lt_iff_toInt_lt, ti_add, ti_sub, ti_mul, Int32.reduceToInt] at *; omega)) (fun v22 ev22 => ?_)
              have zv22 : v22 = 0 ∨ v22 = 1 := by rw [ev22]; exact hB 229 rfl _
              refine ok_if (fun hc23 => ?_) (fun hc23 => ?_)
              · refine ok_s16 hT rfl (by decide) (by first | omega | decide | (simp only [Int32.le_iff_toInt_le, Int32.lt_iff_toInt_lt, ti_add, ti_sub, ti_mul, Int32.reduceToInt] at *; omega)) (by first | omega | decide | (simp only [Int32.le_iff_toInt_le, Int32.lt_iff_toInt_lt, ti_add, ti_sub, ti_mul, Int32.reduceToInt] at *; omega)) (fun σ24 eσ24 hOσ24 hT => ?_)
                have hB : ZB σ24.1 := by first | exact HQ | exact ZB_s eσ24 hB
                exact ih98_12 (x6_12 + 1, σ24) (show Tr [227, 228, 229] σ0 σ24 ∧ (0 ≤ (x6_12 + 1).toInt) ∧ (ZB σ24.1) from ⟨hT, (by first | omega | decide | (simp only [Int32.le_iff_toInt_le, Int32.lt_iff_toInt_lt, ti_add, ti_sub, ti_mul, Int32.reduceToInt] at *; omega)), hB⟩) (show ((1024 : Int32).toInt - (x6_12 + 1).toInt).toNat < ((1024 : Int32).toInt - x6_12.toInt).toNat from (by first | omega | decide | (simp only [Int32.le_iff_toInt_le, Int32.lt_iff_toInt_lt, ti_add, ti_sub, ti_mul, Int32.reduceToInt] at *; omega)))
              · refine ok_s16 hT rfl (by decide) (by first | omega | decide | (simp only [Int32.le_iff_toInt_le, Int32.lt_iff_toInt_lt, ti_add, ti_sub, ti_mul, Int32.reduceToInt] at *; omega)) (by first | omega | decide | (simp only [Int32.le_iff_toInt_le, Int32.lt_iff_toInt_lt, ti_add, ti_sub, ti_mul, Int32.reduceToInt] at *; omega)) (fun σ25 eσ25 hOσ25 hT => ?_)
                have hB : ZB σ25.1 := by first | exact HQ | exact ZB_s eσ25 hB
                exact ih98_12 (x6_12 + 1, σ25) (show Tr [227, 228, 229] σ0 σ25 ∧ (0 ≤ (x6_12 + 1).toInt) ∧ (ZB σ25.1) from ⟨hT, (by first | omega | decide | (simp only [Int32.le_iff_toInt_le, Int32.lt_iff_toInt_lt, ti_add, ti_sub, ti_mul, Int32.reduceToInt] at *; omega)), hB⟩) (show ((1024 : Int32).toInt - (x6_12 + 1).toInt).toNat < ((1024 : Int32).toInt - x6_12.toInt).toNat from (by first | omega | decide | (simp only [Int32.le_iff_toInt_le, Int32.lt_iff_toInt_lt, ti_add, ti_sub, ti_mul, Int32.reduceToInt] at *; omega)))
      · refine ok_gR (v := 228) hT rfl (hR 218 18 rfl) ?_
        refine ok_gI0 hT rfl (by decide) ?_
        refine ok_if (fun hc28 => ?_) (fun hc28 => ?_)
        · refine ok_s16 hT rfl (by decide) (by first | omega | decide | (simp only [Int32.le_iff_toInt_le, Int32.lt_iff_toInt_lt, ti_add, ti_sub, ti_mul, Int32.reduceToInt] at *; omega)) (by first | omega | decide | (simp only [Int32.le_iff_toInt_le, Int32.lt_iff_toInt_lt, ti_add, ti_sub, ti_mul, Int32.reduceToInt] at *; omega)) (fun σ29 eσ29 hOσ29 hT => ?_)
          have hB : ZB σ29.1 := by first | exact HQ | exact ZB_s eσ29 hB
          exact ih28_6 (x6_6 + 1, σ29) (show Tr [227, 228, 229] σ0 σ29 ∧ (0 ≤ (x6_6 + 1).toInt) ∧ (ZB σ29.1) from ⟨hT, (by first | omega | decide | (simp only [Int32.le_iff_toInt_le, Int32.lt_iff_toInt_lt, ti_add, ti_sub, ti_mul, Int32.reduceToInt] at *; omega)), hB⟩) (show ((1024 : Int32).toInt - (x6_6 + 1).toInt).toNat < ((1024 : Int32).toInt - x6_6.toInt).toNat from (by first | omega | decide | (simp only [Int32.le_iff_toInt_le, Int32.lt_iff_toInt_lt, ti_add, ti_sub, ti_mul, Int32.reduceToInt] at *; omega)))
        · refine ok_gC rfl ?_
          refine ok_zbT (Q := fun V σ => V = 0 ∨ V = 1) hT (s_X12_isOver_220_220 hN (hR.tr hT) (hB) (by first | exact ha | (rw [hT.2 218 (by decide)]; exact ha)) (by first | omega | decide | (simp only [Int32.le_iff_toInt_le, Int32.lt_iff_toInt_lt, ti_add, ti_sub, ti_mul, Int32.reduceToInt] at *; omega)) (by first | omega | decide | (simp only [Int32.le_iff_toInt_le, Int32.lt_iff_toInt_lt, ti_add, ti_sub, ti_mul, Int32.reduceToInt] at *; omega)) (by first | omega | decide | (simp only [Int32.le_iff_toInt_le, Int32.lt_iff_toInt_lt, ti_add, ti_sub, ti_mul, Int32.reduceToInt] at *; omega))) (fun _ h9 => absurd h9 List.not_mem_nil) (fun v30 σ31 hOσ31 hT hqv30 => ?_)
          have hqv30 : v30 = 0 ∨ v30 = 1 := hqv30
          have hB : ZB σ31.1 := ZB.tr hOσ31 (by decide) hB
          refine ok_if (fun hc32 => ?_) (fun hc32 => ?_)
          · refine ok_s16 hT rfl (by decide) (by first | omega | decide | (simp only [Int32.le_iff_toInt_le, Int32.lt_iff_toInt_lt, ti_add, ti_sub, ti_mul, Int32.reduceToInt] at *; omega)) (by first | omega | decide | (simp only [Int32.le_iff_toInt_le, Int32.lt_iff_toInt_lt, ti_add, ti_sub, ti_mul, Int32.reduceToInt] at *; omega)) (fun σ33 eσ33 hOσ33 hT => ?_)
            have hB : ZB σ33.1 := by first | exact HQ | exact ZB_s eσ33 hB
            exact ih28_6 (x6_6 + 1, σ33) (show Tr [227, 228, 229] σ0 σ33 ∧ (0 ≤ (x6_6 + 1).toInt) ∧ (ZB σ33.1) from ⟨hT, (by first | omega | decide | (simp only [Int32.le_iff_toInt_le, Int32.lt_iff_toInt_lt, ti_add, ti_sub, ti_mul, Int32.reduceToInt] at *; omega)), hB⟩) (show ((1024 : Int32).toInt - (x6_6 + 1).toInt).toNat < ((1024 : Int32).toInt - x6_6.toInt).toNat from (by first | omega | decide | (simp only [Int32.le_iff_toInt_le, Int32.lt_iff_toInt_lt, ti_add, ti_sub, ti_mul, Int32.reduceToInt] at *; omega)))
          · refine ok_s16 hT rfl (by decide) (by first | omega | decide | (simp only [Int32.le_iff_toInt_le, Int32.lt_iff_toInt_lt, ti_add, ti_sub, ti_mul, Int32.reduceToInt] at *; omega)) (by first | omega | decide | (simp only [Int32.le_iff_toInt_le, Int32.lt_iff_toInt_lt, ti_add, ti_sub, ti_mul, Int32.reduceToInt] at *; omega)) (fun σ34 eσ34 hOσ34 hT => ?_)
            have hB : ZB σ34.1 := by first | exact HQ | exact ZB_s eσ34 hB
            exact ih28_6 (x6_6 + 1, σ34) (show Tr [227, 228, 229] σ0 σ34 ∧ (0 ≤ (x6_6 + 1).toInt) ∧ (ZB σ34.1) from ⟨hT, (by first | omega | decide | (simp only [Int32.le_iff_toInt_le, Int32.lt_iff_toInt_lt, ti_add, ti_sub, ti_mul, Int32.reduceToInt] at *; omega)), hB⟩) (show ((1024 : Int32).toInt - (x6_6 + 1).toInt).toNat < ((1024 : Int32).toInt - x6_6.toInt).toNat from (by first | omega | decide | (simp only [Int32.le_iff_toInt_le, Int32.lt_iff_toInt_lt, ti_add, ti_sub, ti_mul, Int32.reduceToInt] at *; omega)))
    · refine ok_lp (fun t : Int32 × zS => Tr [227, 228, 229] σ0 (t.2) ∧ (0 ≤ (t.1).toInt) ∧ (ZB (t.2).1)) (fun t : Int32 × zS => ((1024 : Int32).toInt - (t.1).toInt).toNat) (fun again35 t hI ih156_35 => ?_) N _ (show Tr [227, 228, 229] σ0 σ0 ∧ (0 ≤ (0 : Int32).toInt) ∧ (ZB σ0.1) from ⟨hT, (by first | omega | decide | (simp only [Int32.le_iff_toInt_le, Int32.lt_iff_toInt_lt, ti_add, ti_sub, ti_mul, Int32.reduceToInt] at *; omega)), hB⟩) (show ((1024 : Int32).toInt - (0 : Int32).toInt).toNat < N from (by first | omega | decide | (simp only [Int32.le_iff_toInt_le, Int32.lt_iff_toInt_lt, ti_add, ti_sub, ti_mul, Int32.reduceToInt] at *; omega)))
      obtain ⟨x6_35, σ35⟩ := t
      have hI : Tr [227, 228, 229] σ0 σ35 ∧ (0 ≤ x6_35.toInt) ∧ (ZB σ35.1) := hI
      obtain ⟨hT, hI35, hB⟩ := hI
      rw [F_X12_gives_156.eq_1]
      refine ok_if (fun hc36 => ?_) (fun hc36 => ?_)
      · exact ok_some ⟨hT, (show ZB σ35.1 from by exact hB)⟩
      · refine ok_gI0 hT rfl (by decide) ?_
        refine ok_if (fun hc38 => ?_) (fun hc38 => ?_)
        · rw [J_X12_gives_178.eq_1]
          refine ok_if (fun hc39 => ?_) (fun hc39 => ?_)
          · refine ok_if (fun hc40 => ?_) (fun hc40 => ?_)
            · refine ok_gR (v := 227) hT rfl (hR 218 17 rfl) ?_
              refine ok_s16 hT rfl (by decide) (by first | omega | decide | (simp only [Int32.le_iff_toInt_le, Int32.lt_iff_toInt_lt, ti_add, ti_sub, ti_mul, Int32.reduceToInt] at *; omega)) (by first | omega | decide | (simp only [Int32.le_iff_toInt_le, Int32.lt_iff_toInt_lt, ti_add, ti_sub, ti_mul, Int32.reduceToInt] at *; omega)) (fun σ42 eσ42 hOσ42 hT => ?_)
              have hB : ZB σ42.1 := by first | exact HQ | exact ZB_s eσ42 hB
              exact ih156_35 (x6_35 + 1, σ42) (show Tr [227, 228, 229] σ0 σ42 ∧ (0 ≤ (x6_35 + 1).toInt) ∧ (ZB σ42.1) from ⟨hT, (by first | omega | decide | (simp only [Int32.le_iff_toInt_le, Int32.lt_iff_toInt_lt, ti_add, ti_sub, ti_mul, Int32.reduceToInt] at *; omega)), hB⟩) (show ((1024 : Int32).toInt - (x6_35 + 1).toInt).toNat < ((1024 : Int32).toInt - x6_35.toInt).toNat from (by first | omega | decide | (simp only [Int32.le_iff_toInt_le, Int32.lt_iff_toInt_lt, ti_add, ti_sub, ti_mul, Int32.reduceToInt] at *; omega)))
            · refine ok_aIn rfl (by first | omega | decide | (simp only [Int32.le_iff_toInt_le, Int32.lt_iff_toInt_lt, ti_add, ti_sub, ti_mul, Int32.reduceToInt] at *; omega)) (by first | omega | decide | (simp only [Int32.le_iff_toInt_le, Int32.lt_iff_toInt_lt, ti_add, ti_sub, ti_mul, Int32.reduceToInt] at *; omega)) (fun v43 ev43 => ?_)
              have zv43 : v43 = 0 ∨ v43 = 1 := by rw [ev43]; exact hB 220 rfl _
              refine ok_if (fun hc44 => ?_) (fun hc44 => ?_)
              · refine ok_aIn rfl (by first | omega | decide | (simp only [Int32.le_iff_toInt_le, Int32.lt_iff_toInt_lt, ti_add, ti_sub, ti_mul, Int32.reduceToInt] at *; omega)) (by first | omega | decide | (simp only [Int32.le_iff_toInt_le, Int32.lt_iff_toInt_lt, ti_add, ti_sub, ti_mul, Int32.reduceToInt] at *; omega)) (fun v45 ev45 => ?_)
                have zv45 : v45 = 0 ∨ v45 = 1 := by rw [ev45]; exact hB 220 rfl _
                refine ok_if (fun hc46 => ?_) (fun hc46 => ?_)
                · refine ok_gR (v := 227) hT rfl (hR 218 17 rfl) ?_
                  refine ok_s16 hT rfl (by decide) (by first | omega | decide | (simp only [Int32.le_iff_toInt_le, Int32.lt_iff_toInt_lt, ti_add, ti_sub, ti_mul, Int32.reduceToInt] at *; omega)) (by first | omega | decide | (simp only [Int32.le_iff_toInt_le, Int32.lt_iff_toInt_lt, ti_add, ti_sub, ti_mul, Int32.reduceToInt] at *; omega)) (fun σ48 eσ48 hOσ48 hT => ?_)
                  have hB : ZB σ48.1 := by first | exact HQ | exact ZB_s eσ48 hB
                  exact ih156_35 (x6_35 + 1, σ48) (show Tr [227, 228, 229] σ0 σ48 ∧ (0 ≤ (x6_35 + 1).toInt) ∧ (ZB σ48.1) from ⟨hT, (by first | omega | decide | (simp only [Int32.le_iff_toInt_le, Int32.lt_iff_toInt_lt, ti_add, ti_sub, ti_mul, Int32.reduceToInt] at *; omega)), hB⟩) (show ((1024 : Int32).toInt - (x6_35 + 1).toInt).toNat < ((1024 : Int32).toInt - x6_35.toInt).toNat from (by first | omega | decide | (simp only [Int32.le_iff_toInt_le, Int32.lt_iff_toInt_lt, ti_add, ti_sub, ti_mul, Int32.reduceToInt] at *; omega)))
                · refine ok_gR (v := 227) hT rfl (hR 218 17 rfl) ?_
                  refine ok_s16 hT rfl (by decide) (by first | omega | decide | (simp only [Int32.le_iff_toInt_le, Int32.lt_iff_toInt_lt, ti_add, ti_sub, ti_mul, Int32.reduceToInt] at *; omega)) (by first | omega | decide | (simp only [Int32.le_iff_toInt_le, Int32.lt_iff_toInt_lt, ti_add, ti_sub, ti_mul, Int32.reduceToInt] at *; omega)) (fun σ50 eσ50 hOσ50 hT => ?_)
                  have hB : ZB σ50.1 := by first | exact HQ | exact ZB_s eσ50 hB
                  exact ih156_35 (x6_35 + 1, σ50) (show Tr [227, 228, 229] σ0 σ50 ∧ (0 ≤ (x6_35 + 1).toInt) ∧ (ZB σ50.1) from ⟨hT, (by first | omega | decide | (simp only [Int32.le_iff_toInt_le, Int32.lt_iff_toInt_lt, ti_add, ti_sub, ti_mul, Int32.reduceToInt] at *; omega)), hB⟩) (show ((1024 : Int32).toInt - (x6_35 + 1).toInt).toNat < ((1024 : Int32).toInt - x6_35.toInt).toNat from (by first | omega | decide | (simp only [Int32.le_iff_toInt_le, Int32.lt_iff_toInt_lt, ti_add, ti_sub, ti_mul, Int32.reduceToInt] at *; omega)))
              · refine ok_gR (v := 227) hT rfl (hR 218 17 rfl) ?_
                refine ok_s16 hT rfl (by decide) (by first | omega | decide | (simp only [Int32.le_iff_toInt_le, Int32.lt_iff_toInt_lt, ti_add, ti_sub, ti_mul, Int32.reduceToInt] at *; omega)) (by first | omega | decide | (simp only [Int32.le_iff_toInt_le, Int32.lt_iff_toInt_lt, ti_add, ti_sub, ti_mul, Int32.reduceToInt] at *; omega)) (fun σ52 eσ52 hOσ52 hT => ?_)
                have hB : ZB σ52.1 := by first | exact HQ | exact ZB_s eσ52 hB
                exact ih156_35 (x6_35 + 1, σ52) (show Tr [227, 228, 229] σ0 σ52 ∧ (0 ≤ (x6_35 + 1).toInt) ∧ (ZB σ52.1) from ⟨hT, (by first | omega | decide | (simp only [Int32.le_iff_toInt_le, Int32.lt_iff_toInt_lt, ti_add, ti_sub, ti_mul, Int32.reduceToInt] at *; omega)), hB⟩) (show ((1024 : Int32).toInt - (x6_35 + 1).toInt).toNat < ((1024 : Int32).toInt - x6_35.toInt).toNat from (by first | omega | decide | (simp only [Int32.le_iff_toInt_le, Int32.lt_iff_toInt_lt, ti_add, ti_sub, ti_mul, Int32.reduceToInt] at *; omega)))
          · refine ok_if (fun hc53 => ?_) (fun hc53 => ?_)
            · refine ok_if (fun hc54 => ?_) (fun hc54 => ?_)
              · refine ok_gR (v := 227) hT rfl (hR 218 17 rfl) ?_
                refine ok_s16 hT rfl (by decide) (by first | omega | decide | (simp only [Int32.le_iff_toInt_le, Int32.lt_iff_toInt_lt, ti_add, ti_sub, ti_mul, Int32.reduceToInt] at *; omega)) (by first | omega | decide | (simp only [Int32.le_iff_toInt_le, Int32.lt_iff_toInt_lt, ti_add, ti_sub, ti_mul, Int32.reduceToInt] at *; omega)) (fun σ56 eσ56 hOσ56 hT => ?_)
                have hB : ZB σ56.1 := by first | exact HQ | exact ZB_s eσ56 hB
                exact ih156_35 (x6_35 + 1, σ56) (show Tr [227, 228, 229] σ0 σ56 ∧ (0 ≤ (x6_35 + 1).toInt) ∧ (ZB σ56.1) from ⟨hT, (by first | omega | decide | (simp only [Int32.le_iff_toInt_le, Int32.lt_iff_toInt_lt, ti_add, ti_sub, ti_mul, Int32.reduceToInt] at *; omega)), hB⟩) (show ((1024 : Int32).toInt - (x6_35 + 1).toInt).toNat < ((1024 : Int32).toInt - x6_35.toInt).toNat from (by first | omega | decide | (simp only [Int32.le_iff_toInt_le, Int32.lt_iff_toInt_lt, ti_add, ti_sub, ti_mul, Int32.reduceToInt] at *; omega)))
              · refine ok_aIn rfl (by first | omega | decide | (simp only [Int32.le_iff_toInt_le, Int32.lt_iff_toInt_lt, ti_add, ti_sub, ti_mul, Int32.reduceToInt] at *; omega)) (by first | omega | decide | (simp only [Int32.le_iff_toInt_le, Int32.lt_iff_toInt_lt, ti_add, ti_sub, ti_mul, Int32.reduceToInt] at *; omega)) (fun v57 ev57 => ?_)
                have zv57 : v57 = 0 ∨ v57 = 1 := by rw [ev57]; exact hB 220 rfl _
                refine ok_if (fun hc58 => ?_) (fun hc58 => ?_)
                · refine ok_gR (v := 227) hT rfl (hR 218 17 rfl) ?_
                  refine ok_s16 hT rfl (by decide) (by first | omega | decide | (simp only [Int32.le_iff_toInt_le, Int32.lt_iff_toInt_lt, ti_add, ti_sub, ti_mul, Int32.reduceToInt] at *; omega)) (by first | omega | decide | (simp only [Int32.le_iff_toInt_le, Int32.lt_iff_toInt_lt, ti_add, ti_sub, ti_mul, Int32.reduceToInt] at *; omega)) (fun σ60 eσ60 hOσ60 hT => ?_)
                  have hB : ZB σ60.1 := by first | exact HQ | exact ZB_s eσ60 hB
                  exact ih156_35 (x6_35 + 1, σ60) (show Tr [227, 228, 229] σ0 σ60 ∧ (0 ≤ (x6_35 + 1).toInt) ∧ (ZB σ60.1) from ⟨hT, (by first | omega | decide | (simp only [Int32.le_iff_toInt_le, Int32.lt_iff_toInt_lt, ti_add, ti_sub, ti_mul, Int32.reduceToInt] at *; omega)), hB⟩) (show ((1024 : Int32).toInt - (x6_35 + 1).toInt).toNat < ((1024 : Int32).toInt - x6_35.toInt).toNat from (by first | omega | decide | (simp only [Int32.le_iff_toInt_le, Int32.lt_iff_toInt_lt, ti_add, ti_sub, ti_mul, Int32.reduceToInt] at *; omega)))
                · refine ok_aIn rfl (by first | omega | decide | (simp only [Int32.le_iff_toInt_le, Int32.lt_iff_toInt_lt, ti_add, ti_sub, ti_mul, Int32.reduceToInt] at *; omega)) (by first | omega | decide | (simp only [Int32.le_iff_toInt_le, Int32.lt_iff_toInt_lt, ti_add, ti_sub, ti_mul, Int32.reduceToInt] at *; omega)) (fun v61 ev61 => ?_)
                  have zv61 : v61 = 0 ∨ v61 = 1 := by rw [ev61]; exact hB 220 rfl _
                  refine ok_if (fun hc62 => ?_) (fun hc62 => ?_)
                  · refine ok_gR (v := 227) hT rfl (hR 218 17 rfl) ?_
                    refine ok_s16 hT rfl (by decide) (by first | omega | decide | (simp only [Int32.le_iff_toInt_le, Int32.lt_iff_toInt_lt, ti_add, ti_sub, ti_mul, Int32.reduceToInt] at *; omega)) (by first | omega | decide | (simp only [Int32.le_iff_toInt_le, Int32.lt_iff_toInt_lt, ti_add, ti_sub, ti_mul, Int32.reduceToInt] at *; omega)) (fun σ64 eσ64 hOσ64 hT => ?_)
                    have hB : ZB σ64.1 := by first | exact HQ | exact ZB_s eσ64 hB
                    exact ih156_35 (x6_35 + 1, σ64) (show Tr [227, 228, 229] σ0 σ64 ∧ (0 ≤ (x6_35 + 1).toInt) ∧ (ZB σ64.1) from ⟨hT, (by first | omega | decide | (simp only [Int32.le_iff_toInt_le, Int32.lt_iff_toInt_lt, ti_add, ti_sub, ti_mul, Int32.reduceToInt] at *; omega)), hB⟩) (show ((1024 : Int32).toInt - (x6_35 + 1).toInt).toNat < ((1024 : Int32).toInt - x6_35.toInt).toNat from (by first | omega | decide | (simp only [Int32.le_iff_toInt_le, Int32.lt_iff_toInt_lt, ti_add, ti_sub, ti_mul, Int32.reduceToInt] at *; omega)))
                  · refine ok_gR (v := 227) hT rfl (hR 218 17 rfl) ?_
                    refine ok_s16 hT rfl (by decide) (by first | omega | decide | (simp only [Int32.le_iff_toInt_le, Int32.lt_iff_toInt_lt, ti_add, ti_sub, ti_mul, Int32.reduceToInt] at *; omega)) (by first | omega | decide | (simp only [Int32.le_iff_toInt_le, Int32.lt_iff_toInt_lt, ti_add, ti_sub, ti_mul, Int32.reduceToInt] at *; omega)) (fun σ66 eσ66 hOσ66 hT => ?_)
                    have hB : ZB σ66.1 := by first | exact HQ | exact ZB_s eσ66 hB
                    exact ih156_35 (x6_35 + 1, σ66) (show Tr [227, 228, 229] σ0 σ66 ∧ (0 ≤ (x6_35 + 1).toInt) ∧ (ZB σ66.1) from ⟨hT, (by first | omega | decide | (simp only [Int32.le_iff_toInt_le, Int32.lt_iff_toInt_lt, ti_add, ti_sub, ti_mul, Int32.reduceToInt] at *; omega)), hB⟩) (show ((1024 : Int32).toInt - (x6_35 + 1).toInt).toNat < ((1024 : Int32).toInt - x6_35.toInt).toNat from (by first | omega | decide | (simp only [Int32.le_iff_toInt_le, Int32.lt_iff_toInt_lt, ti_add, ti_sub, ti_mul, Int32.reduceToInt] at *; omega)))
            · refine ok_if (fun hc67 => ?_) (fun hc67 => ?_)
              · refine ok_if (fun hc68 => ?_) (fun hc68 => ?_)
                · refine ok_gR (v := 227) hT rfl (hR 218 17 rfl) ?_
                  refine ok_s16 hT rfl (by decide) (by first | omega | decide | (simp only [Int32.le_iff_toInt_le, Int32.lt_iff_toInt_lt, ti_add, ti_sub, ti_mul, Int32.reduceToInt] at *; omega)) (by first | omega | decide | (simp only [Int32.le_iff_toInt_le, Int32.lt_iff_toInt_lt, ti_add, ti_sub, ti_mul, Int32.reduceToInt] at *; omega)) (fun σ70 eσ70 hOσ70 hT => ?_)
                  have hB : ZB σ70.1 := by first | exact HQ | exact ZB_s eσ70 hB
                  exact ih156_35 (x6_35 + 1, σ70) (show Tr [227, 228, 229] σ0 σ70 ∧ (0 ≤ (x6_35 + 1).toInt) ∧ (ZB σ70.1) from ⟨hT, (by first | omega | decide | (simp only [Int32.le_iff_toInt_le, Int32.lt_iff_toInt_lt, ti_add, ti_sub, ti_mul, Int32.reduceToInt] at *; omega)), hB⟩) (show ((1024 : Int32).toInt - (x6_35 + 1).toInt).toNat < ((1024 : Int32).toInt - x6_35.toInt).toNat from (by first | omega | decide | (simp only [Int32.le_iff_toInt_le, Int32.lt_iff_toInt_lt, ti_add, ti_sub, ti_mul, Int32.reduceToInt] at *; omega)))
                · refine ok_aIn rfl (by first | omega | decide | (simp only [Int32.le_iff_toInt_le, Int32.lt_iff_toInt_lt, ti_add, ti_sub, ti_mul, Int32.reduceToInt] at *; omega)) (by first | omega | decide | (simp only [Int32.le_iff_toInt_le, Int32.lt_iff_toInt_lt, ti_add, ti_sub, ti_mul, Int32.reduceToInt] at *; omega)) (fun v71 ev71 => ?_)
                  have zv71 : v71 = 0 ∨ v71 = 1 := by rw [ev71]; exact hB 220 rfl _
                  refine ok_if (fun hc72 => ?_) (fun hc72 => ?_)
                  · refine ok_gR (v := 227) hT rfl (hR 218 17 rfl) ?_
                    refine ok_s16 hT rfl (by decide) (by first | omega | decide | (simp only [Int32.le_iff_toInt_le, Int32.lt_iff_toInt_lt, ti_add, ti_sub, ti_mul, Int32.reduceToInt] at *; omega)) (by first | omega | decide | (simp only [Int32.le_iff_toInt_le, Int32.lt_iff_toInt_lt, ti_add, ti_sub, ti_mul, Int32.reduceToInt] at *; omega)) (fun σ74 eσ74 hOσ74 hT => ?_)
                    have hB : ZB σ74.1 := by first | exact HQ | exact ZB_s eσ74 hB
                    exact ih156_35 (x6_35 + 1, σ74) (show Tr [227, 228, 229] σ0 σ74 ∧ (0 ≤ (x6_35 + 1).toInt) ∧ (ZB σ74.1) from ⟨hT, (by first | omega | decide | (simp only [Int32.le_iff_toInt_le, Int32.lt_iff_toInt_lt, ti_add, ti_sub, ti_mul, Int32.reduceToInt] at *; omega)), hB⟩) (show ((1024 : Int32).toInt - (x6_35 + 1).toInt).toNat < ((1024 : Int32).toInt - x6_35.toInt).toNat from (by first | omega | decide | (simp only [Int32.le_iff_toInt_le, Int32.lt_iff_toInt_lt, ti_add, ti_sub, ti_mul, Int32.reduceToInt] at *; omega)))
                  · refine ok_aIn rfl (by first | omega | decide | (simp only [Int32.le_iff_toInt_le, Int32.lt_iff_toInt_lt, ti_add, ti_sub, ti_mul, Int32.reduceToInt] at *; omega)) (by first | omega | decide | (simp only [Int32.le_iff_toInt_le, Int32.lt_iff_toInt_lt, ti_add, ti_sub, ti_mul, Int32.reduceToInt] at *; omega)) (fun v75 ev75 => ?_)
                    have zv75 : v75 = 0 ∨ v75 = 1 := by rw [ev75]; exact hB 220 rfl _
                    refine ok_if (fun hc76 => ?_) (fun hc76 => ?_)
                    · refine ok_gR (v := 227) hT rfl (hR 218 17 rfl) ?_
                      refine ok_s16 hT rfl (by decide) (by first | omega | decide | (simp only [Int32.le_iff_toInt_le, Int32.lt_iff_toInt_lt, ti_add, ti_sub, ti_mul, Int32.reduceToInt] at *; omega)) (by first | omega | decide | (simp only [Int32.le_iff_toInt_le, Int32.lt_iff_toInt_lt, ti_add, ti_sub, ti_mul, Int32.reduceToInt] at *; omega)) (fun σ78 eσ78 hOσ78 hT => ?_)
                      have hB : ZB σ78.1 := by first | exact HQ | exact ZB_s eσ78 hB
                      exact ih156_35 (x6_35 + 1, σ78) (show Tr [227, 228, 229] σ0 σ78 ∧ (0 ≤ (x6_35 + 1).toInt) ∧ (ZB σ78.1) from ⟨hT, (by first | omega | decide | (simp only [Int32.le_iff_toInt_le, Int32.lt_iff_toInt_lt, ti_add, ti_sub, ti_mul, Int32.reduceToInt] at *; omega)), hB⟩) (show ((1024 : Int32).toInt - (x6_35 + 1).toInt).toNat < ((1024 : Int32).toInt - x6_35.toInt).toNat from (by first | omega | decide | (simp only [Int32.le_iff_toInt_le, Int32.lt_iff_toInt_lt, ti_add, ti_sub, ti_mul, Int32.reduceToInt] at *; omega)))
                    · refine ok_gR (v := 227) hT rfl (hR 218 17 rfl) ?_
                      refine ok_s16 hT rfl (by decide) (by first | omega | decide | (simp only [Int32.le_iff_toInt_le, Int32.lt_iff_toInt_lt, ti_add, ti_sub, ti_mul, Int32.reduceToInt] at *; omega)) (by first | omega | decide | (simp only [Int32.le_iff_toInt_le, Int32.lt_iff_toInt_lt, ti_add, ti_sub, ti_mul, Int32.reduceToInt] at *; omega)) (fun σ80 eσ80 hOσ80 hT => ?_)
                      have hB : ZB σ80.1 := by first | exact HQ | exact ZB_s eσ80 hB
                      exact ih156_35 (x6_35 + 1, σ80) (show Tr [227, 228, 229] σ0 σ80 ∧ (0 ≤ (x6_35 + 1).toInt) ∧ (ZB σ80.1) from ⟨hT, (by first | omega | decide | (simp only [Int32.le_iff_toInt_le, Int32.lt_iff_toInt_lt, ti_add, ti_sub, ti_mul, Int32.reduceToInt] at *; omega)), hB⟩) (show ((1024 : Int32).toInt - (x6_35 + 1).toInt).toNat < ((1024 : Int32).toInt - x6_35.toInt).toNat from (by first | omega | decide | (simp only [Int32.le_iff_toInt_le, Int32.lt_iff_toInt_lt, ti_add, ti_sub, ti_mul, Int32.reduceToInt] at *; omega)))
              · refine ok_if (fun hc81 => ?_) (fun hc81 => ?_)
                · refine ok_if (fun hc82 => ?_) (fun hc82 => ?_)
                  · refine ok_gR (v := 227) hT rfl (hR 218 17 rfl) ?_
                    refine ok_s16 hT rfl (by decide) (by first | omega | decide | (simp only [Int32.le_iff_toInt_le, Int32.lt_iff_toInt_lt, ti_add, ti_sub, ti_mul, Int32.reduceToInt] at *; omega)) (by first | omega | decide | (simp only [Int32.le_iff_toInt_le, Int32.lt_iff_toInt_lt, ti_add, ti_sub, ti_mul, Int32.reduceToInt] at *; omega)) (fun σ84 eσ84 hOσ84 hT => ?_)
                    have hB : ZB σ84.1 := by first | exact HQ | exact ZB_s eσ84 hB
                    exact ih156_35 (x6_35 + 1, σ84) (show Tr [227, 228, 229] σ0 σ84 ∧ (0 ≤ (x6_35 + 1).toInt) ∧ (ZB σ84.1) from ⟨hT, (by first | omega | decide | (simp only [Int32.le_iff_toInt_le, Int32.lt_iff_toInt_lt, ti_add, ti_sub, ti_mul, Int32.reduceToInt] at *; omega)), hB⟩) (show ((1024 : Int32).toInt - (x6_35 + 1).toInt).toNat < ((1024 : Int32).toInt - x6_35.toInt).toNat from (by first | omega | decide | (simp only [Int32.le_iff_toInt_le, Int32.lt_iff_toInt_lt, ti_add, ti_sub, ti_mul, Int32.reduceToInt] at *; omega)))
                  · refine ok_gC rfl ?_
                    refine ok_zbT (Q := fun V σ => V = 0 ∨ V = 1) hT (s_X12_isOver_220_220 hN (hR.tr hT) (hB) (by first | exact ha | (rw [hT.2 218 (by decide)]; exact ha)) (by first | omega | decide | (simp only [Int32.le_iff_toInt_le, Int32.lt_iff_toInt_lt, ti_add, ti_sub, ti_mul, Int32.reduceToInt] at *; omega)) (by first | omega | decide | (simp only [Int32.le_iff_toInt_le, Int32.lt_iff_toInt_lt, ti_add, ti_sub, ti_mul, Int32.reduceToInt] at *; omega)) (by first | omega | decide | (simp only [Int32.le_iff_toInt_le, Int32.lt_iff_toInt_lt, ti_add, ti_sub, ti_mul, Int32.reduceToInt] at *; omega))) (fun _ h9 => absurd h9 List.not_mem_nil) (fun v85 σ86 hOσ86 hT hqv85 => ?_)
                    have hqv85 : v85 = 0 ∨ v85 = 1 := hqv85
                    have hB : ZB σ86.1 := ZB.tr hOσ86 (by decide) hB
                    refine ok_if (fun hc87 => ?_) (fun hc87 => ?_)
                    · refine ok_gR (v := 227) hT rfl (hR 218 17 rfl) ?_
                      refine ok_s16 hT rfl (by decide) (by first | omega | decide | (simp only [Int32.le_iff_toInt_le, Int32.lt_iff_toInt_lt, ti_add, ti_sub, ti_mul, Int32.reduceToInt] at *; omega)) (by first | omega | decide | (simp only [Int32.le_iff_toInt_le, Int32.lt_iff_toInt_lt, ti_add, ti_sub, ti_mul, Int32.reduceToInt] at *; omega)) (fun σ89 eσ89 hOσ89 hT => ?_)
                      have hB : ZB σ89.1 := by first | exact HQ | exact ZB_s eσ89 hB
                      exact ih156_35 (x6_35 + 1, σ89) (show Tr [227, 228, 229] σ0 σ89 ∧ (0 ≤ (x6_35 + 1).toInt) ∧ (ZB σ89.1) from ⟨hT, (by first | omega | decide | (simp only [Int32.le_iff_toInt_le, Int32.lt_iff_toInt_lt, ti_add, ti_sub, ti_mul, Int32.reduceToInt] at *; omega)), hB⟩) (show ((1024 : Int32).toInt - (x6_35 + 1).toInt).toNat < ((1024 : Int32).toInt - x6_35.toInt).toNat from (by first | omega | decide | (simp only [Int32.le_iff_toInt_le, Int32.lt_iff_toInt_lt, ti_add, ti_sub, ti_mul, Int32.reduceToInt] at *; omega)))
                    · refine ok_gR (v := 227) hT rfl (hR 218 17 rfl) ?_
                      refine ok_s16 hT rfl (by decide) (by first | omega | decide | (simp only [Int32.le_iff_toInt_le, Int32.lt_iff_toInt_lt, ti_add, ti_sub, ti_mul, Int32.reduceToInt] at *; omega)) (by first | omega | decide | (simp only [Int32.le_iff_toInt_le, Int32.lt_iff_toInt_lt, ti_add, ti_sub, ti_mul, Int32.reduceToInt] at *; omega)) (fun σ91 eσ91 hOσ91 hT => ?_)
                      have hB : ZB σ91.1 := by first | exact HQ | exact ZB_s eσ91 hB
                      exact ih156_35 (x6_35 + 1, σ91) (show Tr [227, 228, 229] σ0 σ91 ∧ (0 ≤ (x6_35 + 1).toInt) ∧ (ZB σ91.1) from ⟨hT, (by first | omega | decide | (simp only [Int32.le_iff_toInt_le, Int32.lt_iff_toInt_lt, ti_add, ti_sub, ti_mul, Int32.reduceToInt] at *; omega)), hB⟩) (show ((1024 : Int32).toInt - (x6_35 + 1).toInt).toNat < ((1024 : Int32).toInt - x6_35.toInt).toNat from (by first | omega | decide | (simp only [Int32.le_iff_toInt_le, Int32.lt_iff_toInt_lt, ti_add, ti_sub, ti_mul, Int32.reduceToInt] at *; omega)))
                · refine ok_if (fun hc92 => ?_) (fun hc92 => ?_)
                  · refine ok_gR (v := 227) hT rfl (hR 218 17 rfl) ?_
                    refine ok_s16 hT rfl (by decide) (by first | omega | decide | (simp only [Int32.le_iff_toInt_le, Int32.lt_iff_toInt_lt, ti_add, ti_sub, ti_mul, Int32.reduceToInt] at *; omega)) (by first | omega | decide | (simp only [Int32.le_iff_toInt_le, Int32.lt_iff_toInt_lt, ti_add, ti_sub, ti_mul, Int32.reduceToInt] at *; omega)) (fun σ94 eσ94 hOσ94 hT => ?_)
                    have hB : ZB σ94.1 := by first | exact HQ | exact ZB_s eσ94 hB
                    exact ih156_35 (x6_35 + 1, σ94) (show Tr [227, 228, 229] σ0 σ94 ∧ (0 ≤ (x6_35 + 1).toInt) ∧ (ZB σ94.1) from ⟨hT, (by first | omega | decide | (simp only [Int32.le_iff_toInt_le, Int32.lt_iff_toInt_lt, ti_add, ti_sub, ti_mul, Int32.reduceToInt] at *; omega)), hB⟩) (show ((1024 : Int32).toInt - (x6_35 + 1).toInt).toNat < ((1024 : Int32).toInt - x6_35.toInt).toNat from (by first | omega | decide | (simp only [Int32.le_iff_toInt_le, Int32.lt_iff_toInt_lt, ti_add, ti_sub, ti_mul, Int32.reduceToInt] at *; omega)))
                  · refine ok_aIn rfl (by first | omega | decide | (simp only [Int32.le_iff_toInt_le, Int32.lt_iff_toInt_lt, ti_add, ti_sub, ti_mul, Int32.reduceToInt] at *; omega)) (by first | omega | decide | (simp only [Int32.le_iff_toInt_le, Int32.lt_iff_toInt_lt, ti_add, ti_sub, ti_mul, Int32.reduceToInt] at *; omega)) (fun v95 ev95 => ?_)
                    have zv95 : v95 = 0 ∨ v95 = 1 := by rw [ev95]; exact hB 220 rfl _
                    refine ok_if (fun hc96 => ?_) (fun hc96 => ?_)
                    · refine ok_gR (v := 227) hT rfl (hR 218 17 rfl) ?_
                      refine ok_s16 hT rfl (by decide) (by first | omega | decide | (simp only [Int32.le_iff_toInt_le, Int32.lt_iff_toInt_lt, ti_add, ti_sub, ti_mul, Int32.reduceToInt] at *; omega)) (by first | omega | decide | (simp only [Int32.le_iff_toInt_le, Int32.lt_iff_toInt_lt, ti_add, ti_sub, ti_mul, Int32.reduceToInt] at *; omega)) (fun σ98 eσ98 hOσ98 hT => ?_)
                      have hB : ZB σ98.1 := by first | exact HQ | exact ZB_s eσ98 hB
                      exact ih156_35 (x6_35 + 1, σ98) (show Tr [227, 228, 229] σ0 σ98 ∧ (0 ≤ (x6_35 + 1).toInt) ∧ (ZB σ98.1) from ⟨hT, (by first | omega | decide | (simp only [Int32.le_iff_toInt_le, Int32.lt_iff_toInt_lt, ti_add, ti_sub, ti_mul, Int32.reduceToInt] at *; omega)), hB⟩) (show ((1024 : Int32).toInt - (x6_35 + 1).toInt).toNat < ((1024 : Int32).toInt - x6_35.toInt).toNat from (by first | omega | decide | (simp only [Int32.le_iff_toInt_le, Int32.lt_iff_toInt_lt, ti_add, ti_sub, ti_mul, Int32.reduceToInt] at *; omega)))
                    · refine ok_gC rfl ?_
                      refine ok_zbT (Q := fun V σ => V = 0 ∨ V = 1) hT (s_X12_isTouching_220 hN (hR.tr hT) (hB) (by first | exact ha | (rw [hT.2 218 (by decide)]; exact ha)) (by first | omega | decide | (simp only [Int32.le_iff_toInt_le, Int32.lt_iff_toInt_lt, ti_add, ti_sub, ti_mul, Int32.reduceToInt] at *; omega)) (by first | omega | decide | (simp only [Int32.le_iff_toInt_le, Int32.lt_iff_toInt_lt, ti_add, ti_sub, ti_mul, Int32.reduceToInt] at *; omega))) (fun _ h9 => absurd h9 List.not_mem_nil) (fun v99 σ100 hOσ100 hT hqv99 => ?_)
                      have hqv99 : v99 = 0 ∨ v99 = 1 := hqv99
                      have hB : ZB σ100.1 := ZB.tr hOσ100 (by decide) hB
                      refine ok_if (fun hc101 => ?_) (fun hc101 => ?_)
                      · refine ok_gR (v := 227) hT rfl (hR 218 17 rfl) ?_
                        refine ok_s16 hT rfl (by decide) (by first | omega | decide | (simp only [Int32.le_iff_toInt_le, Int32.lt_iff_toInt_lt, ti_add, ti_sub, ti_mul, Int32.reduceToInt] at *; omega)) (by first | omega | decide | (simp only [Int32.le_iff_toInt_le, Int32.lt_iff_toInt_lt, ti_add, ti_sub, ti_mul, Int32.reduceToInt] at *; omega)) (fun σ103 eσ103 hOσ103 hT => ?_)
                        have hB : ZB σ103.1 := by first | exact HQ | exact ZB_s eσ103 hB
                        exact ih156_35 (x6_35 + 1, σ103) (show Tr [227, 228, 229] σ0 σ103 ∧ (0 ≤ (x6_35 + 1).toInt) ∧ (ZB σ103.1) from ⟨hT, (by first | omega | decide | (simp only [Int32.le_iff_toInt_le, Int32.lt_iff_toInt_lt, ti_add, ti_sub, ti_mul, Int32.reduceToInt] at *; omega)), hB⟩) (show ((1024 : Int32).toInt - (x6_35 + 1).toInt).toNat < ((1024 : Int32).toInt - x6_35.toInt).toNat from (by first | omega | decide | (simp only [Int32.le_iff_toInt_le, Int32.lt_iff_toInt_lt, ti_add, ti_sub, ti_mul, Int32.reduceToInt] at *; omega)))
                      · refine ok_gR (v := 227) hT rfl (hR 218 17 rfl) ?_
                        refine ok_s16 hT rfl (by decide) (by first | omega | decide | (simp only [Int32.le_iff_toInt_le, Int32.lt_iff_toInt_lt, ti_add, ti_sub, ti_mul, Int32.reduceToInt] at *; omega)) (by first | omega | decide | (simp only [Int32.le_iff_toInt_le, Int32.lt_iff_toInt_lt, ti_add, ti_sub, ti_mul, Int32.reduceToInt] at *; omega)) (fun σ105 eσ105 hOσ105 hT => ?_)
                        have hB : ZB σ105.1 := by first | exact HQ | exact ZB_s eσ105 hB
                        exact ih156_35 (x6_35 + 1, σ105) (show Tr [227, 228, 229] σ0 σ105 ∧ (0 ≤ (x6_35 + 1).toInt) ∧ (ZB σ105.1) from ⟨hT, (by first | omega | decide | (simp only [Int32.le_iff_toInt_le, Int32.lt_iff_toInt_lt, ti_add, ti_sub, ti_mul, Int32.reduceToInt] at *; omega)), hB⟩) (show ((1024 : Int32).toInt - (x6_35 + 1).toInt).toNat < ((1024 : Int32).toInt - x6_35.toInt).toNat from (by first | omega | decide | (simp only [Int32.le_iff_toInt_le, Int32.lt_iff_toInt_lt, ti_add, ti_sub, ti_mul, Int32.reduceToInt] at *; omega)))
        · rw [J_X12_gives_178.eq_1]
          refine ok_if (fun hc106 => ?_) (fun hc106 => ?_)
          · refine ok_if (fun hc107 => ?_) (fun hc107 => ?_)
            · refine ok_gR (v := 227) hT rfl (hR 218 17 rfl) ?_
              refine ok_s16 hT rfl (by decide) (by first | omega | decide | (simp only [Int32.le_iff_toInt_le, Int32.lt_iff_toInt_lt, ti_add, ti_sub, ti_mul, Int32.reduceToInt] at *; omega)) (by first | omega | decide | (simp only [Int32.le_iff_toInt_le, Int32.lt_iff_toInt_lt, ti_add, ti_sub, ti_mul, Int32.reduceToInt] at *; omega)) (fun σ109 eσ109 hOσ109 hT => ?_)
              have hB : ZB σ109.1 := by first | exact HQ | exact ZB_s eσ109 hB
              exact ih156_35 (x6_35 + 1, σ109) (show Tr [227, 228, 229] σ0 σ109 ∧ (0 ≤ (x6_35 + 1).toInt) ∧ (ZB σ109.1) from ⟨hT, (by first | omega | decide | (simp only [Int32.le_iff_toInt_le, Int32.lt_iff_toInt_lt, ti_add, ti_sub, ti_mul, Int32.reduceToInt] at *; omega)), hB⟩) (show ((1024 : Int32).toInt - (x6_35 + 1).toInt).toNat < ((1024 : Int32).toInt - x6_35.toInt).toNat from (by first | omega | decide | (simp only [Int32.le_iff_toInt_le, Int32.lt_iff_toInt_lt, ti_add, ti_sub, ti_mul, Int32.reduceToInt] at *; omega)))
            · refine ok_aIn rfl (by first | omega | decide | (simp only [Int32.le_iff_toInt_le, Int32.lt_iff_toInt_lt, ti_add, ti_sub, ti_mul, Int32.reduceToInt] at *; omega)) (by first | omega | decide | (simp only [Int32.le_iff_toInt_le, Int32.lt_iff_toInt_lt, ti_add, ti_sub, ti_mul, Int32.reduceToInt] at *; omega)) (fun v110 ev110 => ?_)
              have zv110 : v110 = 0 ∨ v110 = 1 := by rw [ev110]; exact hB 220 rfl _
              refine ok_if (fun hc111 => ?_) (fun hc111 => ?_)
              · refine ok_aIn rfl (by first | omega | decide | (simp only [Int32.le_iff_toInt_le, Int32.lt_iff_toInt_lt, ti_add, ti_sub, ti_mul, Int32.reduceToInt] at *; omega)) (by first | omega | decide | (simp only [Int32.le_iff_toInt_le, Int32.lt_iff_toInt_lt, ti_add, ti_sub, ti_mul, Int32.reduceToInt] at *; omega)) (fun v112 ev112 => ?_)
                have zv112 : v112 = 0 ∨ v112 = 1 := by rw [ev112]; exact hB 220 rfl _
                refine ok_if (fun hc113 => ?_) (fun hc113 => ?_)
                · refine ok_gR (v := 227) hT rfl (hR 218 17 rfl) ?_
                  refine ok_s16 hT rfl (by decide) (by first | omega | decide | (simp only [Int32.le_iff_toInt_le, Int32.lt_iff_toInt_lt, ti_add, ti_sub, ti_mul, Int32.reduceToInt] at *; omega)) (by first | omega | decide | (simp only [Int32.le_iff_toInt_le, Int32.lt_iff_toInt_lt, ti_add, ti_sub, ti_mul, Int32.reduceToInt] at *; omega)) (fun σ115 eσ115 hOσ115 hT => ?_)
                  have hB : ZB σ115.1 := by first | exact HQ | exact ZB_s eσ115 hB
                  exact ih156_35 (x6_35 + 1, σ115) (show Tr [227, 228, 229] σ0 σ115 ∧ (0 ≤ (x6_35 + 1).toInt) ∧ (ZB σ115.1) from ⟨hT, (by first | omega | decide | (simp only [Int32.le_iff_toInt_le, Int32.lt_iff_toInt_lt, ti_add, ti_sub, ti_mul, Int32.reduceToInt] at *; omega)), hB⟩) (show ((1024 : Int32).toInt - (x6_35 + 1).toInt).toNat < ((1024 : Int32).toInt - x6_35.toInt).toNat from (by first | omega | decide | (simp only [Int32.le_iff_toInt_le, Int32.lt_iff_toInt_lt, ti_add, ti_sub, ti_mul, Int32.reduceToInt] at *; omega)))
                · refine ok_gR (v := 227) hT rfl (hR 218 17 rfl) ?_
                  refine ok_s16 hT rfl (by decide) (by first | omega | decide | (simp only [Int32.le_iff_toInt_le, Int32.lt_iff_toInt_lt, ti_add, ti_sub, ti_mul, Int32.reduceToInt] at *; omega)) (by first | omega | decide | (simp only [Int32.le_iff_toInt_le, Int32.lt_iff_toInt_lt, ti_add, ti_sub, ti_mul, Int32.reduceToInt] at *; omega)) (fun σ117 eσ117 hOσ117 hT => ?_)
                  have hB : ZB σ117.1 := by first | exact HQ | exact ZB_s eσ117 hB
                  exact ih156_35 (x6_35 + 1, σ117) (show Tr [227, 228, 229] σ0 σ117 ∧ (0 ≤ (x6_35 + 1).toInt) ∧ (ZB σ117.1) from ⟨hT, (by first | omega | decide | (simp only [Int32.le_iff_toInt_le, Int32.lt_iff_toInt_lt, ti_add, ti_sub, ti_mul, Int32.reduceToInt] at *; omega)), hB⟩) (show ((1024 : Int32).toInt - (x6_35 + 1).toInt).toNat < ((1024 : Int32).toInt - x6_35.toInt).toNat from (by first | omega | decide | (simp only [Int32.le_iff_toInt_le, Int32.lt_iff_toInt_lt, ti_add, ti_sub, ti_mul, Int32.reduceToInt] at *; omega)))
              · refine ok_gR (v := 227) hT rfl (hR 218 17 rfl) ?_
                refine ok_s16 hT rfl (by decide) (by first | omega | decide | (simp only [Int32.le_iff_toInt_le, Int32.lt_iff_toInt_lt, ti_add, ti_sub, ti_mul, Int32.reduceToInt] at *; omega)) (by first | omega | decide | (simp only [Int32.le_iff_toInt_le, Int32.lt_iff_toInt_lt, ti_add, ti_sub, ti_mul, Int32.reduceToInt] at *; omega)) (fun σ119 eσ119 hOσ119 hT => ?_)
                have hB : ZB σ119.1 := by first | exact HQ | exact ZB_s eσ119 hB
                exact ih156_35 (x6_35 + 1, σ119) (show Tr [227, 228, 229] σ0 σ119 ∧ (0 ≤ (x6_35 + 1).toInt) ∧ (ZB σ119.1) from ⟨hT, (by first | omega | decide | (simp only [Int32.le_iff_toInt_le, Int32.lt_iff_toInt_lt, ti_add, ti_sub, ti_mul, Int32.reduceToInt] at *; omega)), hB⟩) (show ((1024 : Int32).toInt - (x6_35 + 1).toInt).toNat < ((1024 : Int32).toInt - x6_35.toInt).toNat from (by first | omega | decide | (simp only [Int32.le_iff_toInt_le, Int32.lt_iff_toInt_lt, ti_add, ti_sub, ti_mul, Int32.reduceToInt] at *; omega)))
          · refine ok_if (fun hc120 => ?_) (fun hc120 => ?_)
            · refine ok_if (fun hc121 => ?_) (fun hc121 => ?_)
              · refine ok_gR (v := 227) hT rfl (hR 218 17 rfl) ?_
                refine ok_s16 hT rfl (by decide) (by first | omega | decide | (simp only [Int32.le_iff_toInt_le, Int32.lt_iff_toInt_lt, ti_add, ti_sub, ti_mul, Int32.reduceToInt] at *; omega)) (by first | omega | decide | (simp only [Int32.le_iff_toInt_le, Int32.lt_iff_toInt_lt, ti_add, ti_sub, ti_mul, Int32.reduceToInt] at *; omega)) (fun σ123 eσ123 hOσ123 hT => ?_)
                have hB : ZB σ123.1 := by first | exact HQ | exact ZB_s eσ123 hB
                exact ih156_35 (x6_35 + 1, σ123) (show Tr [227, 228, 229] σ0 σ123 ∧ (0 ≤ (x6_35 + 1).toInt) ∧ (ZB σ123.1) from ⟨hT, (by first | omega | decide | (simp only [Int32.le_iff_toInt_le, Int32.lt_iff_toInt_lt, ti_add, ti_sub, ti_mul, Int32.reduceToInt] at *; omega)), hB⟩) (show ((1024 : Int32).toInt - (x6_35 + 1).toInt).toNat < ((1024 : Int32).toInt - x6_35.toInt).toNat from (by first | omega | decide | (simp only [Int32.le_iff_toInt_le, Int32.lt_iff_toInt_lt, ti_add, ti_sub, ti_mul, Int32.reduceToInt] at *; omega)))
              · refine ok_aIn rfl (by first | omega | decide | (simp only [Int32.le_iff_toInt_le, Int32.lt_iff_toInt_lt, ti_add, ti_sub, ti_mul, Int32.reduceToInt] at *; omega)) (by first | omega | decide | (simp only [Int32.le_iff_toInt_le, Int32.lt_iff_toInt_lt, ti_add, ti_sub, ti_mul, Int32.reduceToInt] at *; omega)) (fun v124 ev124 => ?_)
                have zv124 : v124 = 0 ∨ v124 = 1 := by rw [ev124]; exact hB 220 rfl _
                refine ok_if (fun hc125 => ?_) (fun hc125 => ?_)
                · refine ok_gR (v := 227) hT rfl (hR 218 17 rfl) ?_
                  refine ok_s16 hT rfl (by decide) (by first | omega | decide | (simp only [Int32.le_iff_toInt_le, Int32.lt_iff_toInt_lt, ti_add, ti_sub, ti_mul, Int32.reduceToInt] at *; omega)) (by first | omega | decide | (simp only [Int32.le_iff_toInt_le, Int32.lt_iff_toInt_lt, ti_add, ti_sub, ti_mul, Int32.reduceToInt] at *; omega)) (fun σ127 eσ127 hOσ127 hT => ?_)
                  have hB : ZB σ127.1 := by first | exact HQ | exact ZB_s eσ127 hB
                  exact ih156_35 (x6_35 + 1, σ127) (show Tr [227, 228, 229] σ0 σ127 ∧ (0 ≤ (x6_35 + 1).toInt) ∧ (ZB σ127.1) from ⟨hT, (by first | omega | decide | (simp only [Int32.le_iff_toInt_le, Int32.lt_iff_toInt_lt, ti_add, ti_sub, ti_mul, Int32.reduceToInt] at *; omega)), hB⟩) (show ((1024 : Int32).toInt - (x6_35 + 1).toInt).toNat < ((1024 : Int32).toInt - x6_35.toInt).toNat from (by first | omega | decide | (simp only [Int32.le_iff_toInt_le, Int32.lt_iff_toInt_lt, ti_add, ti_sub, ti_mul, Int32.reduceToInt] at *; omega)))
                · refine ok_aIn rfl (by first | omega | decide | (simp only [Int32.le_iff_toInt_le, Int32.lt_iff_toInt_lt, ti_add, ti_sub, ti_mul, Int32.reduceToInt] at *; omega)) (by first | omega | decide | (simp only [Int32.le_iff_toInt_le, Int32.lt_iff_toInt_lt, ti_add, ti_sub, ti_mul, Int32.reduceToInt] at *; omega)) (fun v128 ev128 => ?_)
                  have zv128 : v128 = 0 ∨ v128 = 1 := by rw [ev128]; exact hB 220 rfl _
                  refine ok_if (fun hc129 => ?_) (fun hc129 => ?_)
                  · refine ok_gR (v := 227) hT rfl (hR 218 17 rfl) ?_
                    refine ok_s16 hT rfl (by decide) (by first | omega | decide | (simp only [Int32.le_iff_toInt_le, Int32.lt_iff_toInt_lt, ti_add, ti_sub, ti_mul, Int32.reduceToInt] at *; omega)) (by first | omega | decide | (simp only [Int32.le_iff_toInt_le, Int32.lt_iff_toInt_lt, ti_add, ti_sub, ti_mul, Int32.reduceToInt] at *; omega)) (fun σ131 eσ131 hOσ131 hT => ?_)
                    have hB : ZB σ131.1 := by first | exact HQ | exact ZB_s eσ131 hB
                    exact ih156_35 (x6_35 + 1, σ131) (show Tr [227, 228, 229] σ0 σ131 ∧ (0 ≤ (x6_35 + 1).toInt) ∧ (ZB σ131.1) from ⟨hT, (by first | omega | decide | (simp only [Int32.le_iff_toInt_le, Int32.lt_iff_toInt_lt, ti_add, ti_sub, ti_mul, Int32.reduceToInt] at *; omega)), hB⟩) (show ((1024 : Int32).toInt - (x6_35 + 1).toInt).toNat < ((1024 : Int32).toInt - x6_35.toInt).toNat from (by first | omega | decide | (simp only [Int32.le_iff_toInt_le, Int32.lt_iff_toInt_lt, ti_add, ti_sub, ti_mul, Int32.reduceToInt] at *; omega)))
                  · refine ok_gR (v := 227) hT rfl (hR 218 17 rfl) ?_
                    refine ok_s16 hT rfl (by decide) (by first | omega | decide | (simp only [Int32.le_iff_toInt_le, Int32.lt_iff_toInt_lt, ti_add, ti_sub, ti_mul, Int32.reduceToInt] at *; omega)) (by first | omega | decide | (simp only [Int32.le_iff_toInt_le, Int32.lt_iff_toInt_lt, ti_add, ti_sub, ti_mul, Int32.reduceToInt] at *; omega)) (fun σ133 eσ133 hOσ133 hT => ?_)
                    have hB : ZB σ133.1 := by first | exact HQ | exact ZB_s eσ133 hB
                    exact ih156_35 (x6_35 + 1, σ133) (show Tr [227, 228, 229] σ0 σ133 ∧ (0 ≤ (x6_35 + 1).toInt) ∧ (ZB σ133.1) from ⟨hT, (by first | omega | decide | (simp only [Int32.le_iff_toInt_le, Int32.lt_iff_toInt_lt, ti_add, ti_sub, ti_mul, Int32.reduceToInt] at *; omega)), hB⟩) (show ((1024 : Int32).toInt - (x6_35 + 1).toInt).toNat < ((1024 : Int32).toInt - x6_35.toInt).toNat from (by first | omega | decide | (simp only [Int32.le_iff_toInt_le, Int32.lt_iff_toInt_lt, ti_add, ti_sub, ti_mul, Int32.reduceToInt] at *; omega)))
            · refine ok_if (fun hc134 => ?_) (fun hc134 => ?_)
              · refine ok_if (fun hc135 => ?_) (fun hc135 => ?_)
                · refine ok_gR (v := 227) hT rfl (hR 218 17 rfl) ?_
                  refine ok_s16 hT rfl (by decide) (by first | omega | decide | (simp only [Int32.le_iff_toInt_le, Int32.lt_iff_toInt_lt, ti_add, ti_sub, ti_mul, Int32.reduceToInt] at *; omega)) (by first | omega | decide | (simp only [Int32.le_iff_toInt_le, Int32.lt_iff_toInt_lt, ti_add, ti_sub, ti_mul, Int32.reduceToInt] at *; omega)) (fun σ137 eσ137 hOσ137 hT => ?_)
                  have hB : ZB σ137.1 := by first | exact HQ | exact ZB_s eσ137 hB
                  exact ih156_35 (x6_35 + 1, σ137) (show Tr [227, 228, 229] σ0 σ137 ∧ (0 ≤ (x6_35 + 1).toInt) ∧ (ZB σ137.1) from ⟨hT, (by first | omega | decide | (simp only [Int32.le_iff_toInt_le, Int32.lt_iff_toInt_lt, ti_add, ti_sub, ti_mul, Int32.reduceToInt] at *; omega)), hB⟩) (show ((1024 : Int32).toInt - (x6_35 + 1).toInt).toNat < ((1024 : Int32).toInt - x6_35.toInt).toNat from (by first | omega | decide | (simp only [Int32.le_iff_toInt_le, Int32.lt_iff_toInt_lt, ti_add, ti_sub, ti_mul, Int32.reduceToInt] at *; omega)))
                · refine ok_aIn rfl (by first | omega | decide | (simp only [Int32.le_iff_toInt_le, Int32.lt_iff_toInt_lt, ti_add, ti_sub, ti_mul, Int32.reduceToInt] at *; omega)) (by first | omega | decide | (simp only [Int32.le_iff_toInt_le, Int32.lt_iff_toInt_lt, ti_add, ti_sub, ti_mul, Int32.reduceToInt] at *; omega)) (fun v138 ev138 => ?_)
                  have zv138 : v138 = 0 ∨ v138 = 1 := by rw [ev138]; exact hB 220 rfl _
                  refine ok_if (fun hc139 => ?_) (fun hc139 => ?_)
                  · refine ok_gR (v := 227) hT rfl (hR 218 17 rfl) ?_
                    refine ok_s16 hT rfl (by decide) (by first | omega | decide | (simp only [Int32.le_iff_toInt_le, Int32.lt_iff_toInt_lt, ti_add, ti_sub, ti_mul, Int32.reduceToInt] at *; omega)) (by first | omega | decide | (simp only [Int32.le_iff_toInt_le, Int32.lt_iff_toInt_lt, ti_add, ti_sub, ti_mul, Int32.reduceToInt] at *; omega)) (fun σ141 eσ141 hOσ141 hT => ?_)
                    have hB : ZB σ141.1 := by first | exact HQ | exact ZB_s eσ141 hB
                    exact ih156_35 (x6_35 + 1, σ141) (show Tr [227, 228, 229] σ0 σ141 ∧ (0 ≤ (x6_35 + 1).toInt) ∧ (ZB σ141.1) from ⟨hT, (by first | omega | decide | (simp only [Int32.le_iff_toInt_le, Int32.lt_iff_toInt_lt, ti_add, ti_sub, ti_mul, Int32.reduceToInt] at *; omega)), hB⟩) (show ((1024 : Int32).toInt - (x6_35 + 1).toInt).toNat < ((1024 : Int32).toInt - x6_35.toInt).toNat from (by first | omega | decide | (simp only [Int32.le_iff_toInt_le, Int32.lt_iff_toInt_lt, ti_add, ti_sub, ti_mul, Int32.reduceToInt] at *; omega)))
                  · refine ok_aIn rfl (by first | omega | decide | (simp only [Int32.le_iff_toInt_le, Int32.lt_iff_toInt_lt, ti_add, ti_sub, ti_mul, Int32.reduceToInt] at *; omega)) (by first | omega | decide | (simp only [Int32.le_iff_toInt_le, Int32.lt_iff_toInt_lt, ti_add, ti_sub, ti_mul, Int32.reduceToInt] at *; omega)) (fun v142 ev142 => ?_)
                    have zv142 : v142 = 0 ∨ v142 = 1 := by rw [ev142]; exact hB 220 rfl _
                    refine ok_if (fun hc143 => ?_) (fun hc143 => ?_)
                    · refine ok_gR (v := 227) hT rfl (hR 218 17 rfl) ?_
                      refine ok_s16 hT rfl (by decide) (by first | omega | decide | (simp only [Int32.le_iff_toInt_le, Int32.lt_iff_toInt_lt, ti_add, ti_sub, ti_mul, Int32.reduceToInt] at *; omega)) (by first | omega | decide | (simp only [Int32.le_iff_toInt_le, Int32.lt_iff_toInt_lt, ti_add, ti_sub, ti_mul, Int32.reduceToInt] at *; omega)) (fun σ145 eσ145 hOσ145 hT => ?_)
                      have hB : ZB σ145.1 := by first | exact HQ | exact ZB_s eσ145 hB
                      exact ih156_35 (x6_35 + 1, σ145) (show Tr [227, 228, 229] σ0 σ145 ∧ (0 ≤ (x6_35 + 1).toInt) ∧ (ZB σ145.1) from ⟨hT, (by first | omega | decide | (simp only [Int32.le_iff_toInt_le, Int32.lt_iff_toInt_lt, ti_add, ti_sub, ti_mul, Int32.reduceToInt] at *; omega)), hB⟩) (show ((1024 : Int32).toInt - (x6_35 + 1).toInt).toNat < ((1024 : Int32).toInt - x6_35.toInt).toNat from (by first | omega | decide | (simp only [Int32.le_iff_toInt_le, Int32.lt_iff_toInt_lt, ti_add, ti_sub, ti_mul, Int32.reduceToInt] at *; omega)))
                    · refine ok_gR (v := 227) hT rfl (hR 218 17 rfl) ?_
                      refine ok_s16 hT rfl (by decide) (by first | omega | decide | (simp only [Int32.le_iff_toInt_le, Int32.lt_iff_toInt_lt, ti_add, ti_sub, ti_mul, Int32.reduceToInt] at *; omega)) (by first | omega | decide | (simp only [Int32.le_iff_toInt_le, Int32.lt_iff_toInt_lt, ti_add, ti_sub, ti_mul, Int32.reduceToInt] at *; omega)) (fun σ147 eσ147 hOσ147 hT => ?_)
                      have hB : ZB σ147.1 := by first | exact HQ | exact ZB_s eσ147 hB
                      exact ih156_35 (x6_35 + 1, σ147) (show Tr [227, 228, 229] σ0 σ147 ∧ (0 ≤ (x6_35 + 1).toInt) ∧ (ZB σ147.1) from ⟨hT, (by first | omega | decide | (simp only [Int32.le_iff_toInt_le, Int32.lt_iff_toInt_lt, ti_add, ti_sub, ti_mul, Int32.reduceToInt] at *; omega)), hB⟩) (show ((1024 : Int32).toInt - (x6_35 + 1).toInt).toNat < ((1024 : Int32).toInt - x6_35.toInt).toNat from (by first | omega | decide | (simp only [Int32.le_iff_toInt_le, Int32.lt_iff_toInt_lt, ti_add, ti_sub, ti_mul, Int32.reduceToInt] at *; omega)))
              · refine ok_if (fun hc148 => ?_) (fun hc148 => ?_)
                · refine ok_if (fun hc149 => ?_) (fun hc149 => ?_)
                  · refine ok_gR (v := 227) hT rfl (hR 218 17 rfl) ?_
                    refine ok_s16 hT rfl (by decide) (by first | omega | decide | (simp only [Int32.le_iff_toInt_le, Int32.lt_iff_toInt_lt, ti_add, ti_sub, ti_mul, Int32.reduceToInt] at *; omega)) (by first | omega | decide | (simp only [Int32.le_iff_toInt_le, Int32.lt_iff_toInt_lt, ti_add, ti_sub, ti_mul, Int32.reduceToInt] at *; omega)) (fun σ151 eσ151 hOσ151 hT => ?_)
                    have hB : ZB σ151.1 := by first | exact HQ | exact ZB_s eσ151 hB
                    exact ih156_35 (x6_35 + 1, σ151) (show Tr [227, 228, 229] σ0 σ151 ∧ (0 ≤ (x6_35 + 1).toInt) ∧ (ZB σ151.1) from ⟨hT, (by first | omega | decide | (simp only [Int32.le_iff_toInt_le, Int32.lt_iff_toInt_lt, ti_add, ti_sub, ti_mul, Int32.reduceToInt] at *; omega)), hB⟩) (show ((1024 : Int32).toInt - (x6_35 + 1).toInt).toNat < ((1024 : Int32).toInt - x6_35.toInt).toNat from (by first | omega | decide | (simp only [Int32.le_iff_toInt_le, Int32.lt_iff_toInt_lt, ti_add, ti_sub, ti_mul, Int32.reduceToInt] at *; omega)))
                  · refine ok_gC rfl ?_
                    refine ok_zbT (Q := fun V σ => V = 0 ∨ V = 1) hT (s_X12_isOver_220_220 hN (hR.tr hT) (hB) (by first | exact ha | (rw [hT.2 218 (by decide)]; exact ha)) (by first | omega | decide | (simp only [Int32.le_iff_toInt_le, Int32.lt_iff_toInt_lt, ti_add, ti_sub, ti_mul, Int32.reduceToInt] at *; omega)) (by first | omega | decide | (simp only [Int32.le_iff_toInt_le, Int32.lt_iff_toInt_lt, ti_add, ti_sub, ti_mul, Int32.reduceToInt] at *; omega)) (by first | omega | decide | (simp only [Int32.le_iff_toInt_le, Int32.lt_iff_toInt_lt, ti_add, ti_sub, ti_mul, Int32.reduceToInt] at *; omega))) (fun _ h9 => absurd h9 List.not_mem_nil) (fun v152 σ153 hOσ153 hT hqv152 => ?_)
                    have hqv152 : v152 = 0 ∨ v152 = 1 := hqv152
                    have hB : ZB σ153.1 := ZB.tr hOσ153 (by decide) hB
                    refine ok_if (fun hc154 => ?_) (fun hc154 => ?_)
                    · refine ok_gR (v := 227) hT rfl (hR 218 17 rfl) ?_
                      refine ok_s16 hT rfl (by decide) (by first | omega | decide | (simp only [Int32.le_iff_toInt_le, Int32.lt_iff_toInt_lt, ti_add, ti_sub, ti_mul, Int32.reduceToInt] at *; omega)) (by first | omega | decide | (simp only [Int32.le_iff_toInt_le, Int32.lt_iff_toInt_lt, ti_add, ti_sub, ti_mul, Int32.reduceToInt] at *; omega)) (fun σ156 eσ156 hOσ156 hT => ?_)
                      have hB : ZB σ156.1 := by first | exact HQ | exact ZB_s eσ156 hB
                      exact ih156_35 (x6_35 + 1, σ156) (show Tr [227, 228, 229] σ0 σ156 ∧ (0 ≤ (x6_35 + 1).toInt) ∧ (ZB σ156.1) from ⟨hT, (by first | omega | decide | (simp only [Int32.le_iff_toInt_le, Int32.lt_iff_toInt_lt, ti_add, ti_sub, ti_mul, Int32.reduceToInt] at *; omega)), hB⟩) (show ((1024 : Int32).toInt - (x6_35 + 1).toInt).toNat < ((1024 : Int32).toInt - x6_35.toInt).toNat from (by first | omega | decide | (simp only [Int32.le_iff_toInt_le, Int32.lt_iff_toInt_lt, ti_add, ti_sub, ti_mul, Int32.reduceToInt] at *; omega)))
                    · refine ok_gR (v := 227) hT rfl (hR 218 17 rfl) ?_
                      refine ok_s16 hT rfl (by decide) (by first | omega | decide | (simp only [Int32.le_iff_toInt_le, Int32.lt_iff_toInt_lt, ti_add, ti_sub, ti_mul, Int32.reduceToInt] at *; omega)) (by first | omega | decide | (simp only [Int32.le_iff_toInt_le, Int32.lt_iff_toInt_lt, ti_add, ti_sub, ti_mul, Int32.reduceToInt] at *; omega)) (fun σ158 eσ158 hOσ158 hT => ?_)
                      have hB : ZB σ158.1 := by first | exact HQ | exact ZB_s eσ158 hB
                      exact ih156_35 (x6_35 + 1, σ158) (show Tr [227, 228, 229] σ0 σ158 ∧ (0 ≤ (x6_35 + 1).toInt) ∧ (ZB σ158.1) from ⟨hT, (by first | omega | decide | (simp only [Int32.le_iff_toInt_le, Int32.lt_iff_toInt_lt, ti_add, ti_sub, ti_mul, Int32.reduceToInt] at *; omega)), hB⟩) (show ((1024 : Int32).toInt - (x6_35 + 1).toInt).toNat < ((1024 : Int32).toInt - x6_35.toInt).toNat from (by first | omega | decide | (simp only [Int32.le_iff_toInt_le, Int32.lt_iff_toInt_lt, ti_add, ti_sub, ti_mul, Int32.reduceToInt] at *; omega)))
                · refine ok_if (fun hc159 => ?_) (fun hc159 => ?_)
                  · refine ok_gR (v := 227) hT rfl (hR 218 17 rfl) ?_
                    refine ok_s16 hT rfl (by decide) (by first | omega | decide | (simp only [Int32.le_iff_toInt_le, Int32.lt_iff_toInt_lt, ti_add, ti_sub, ti_mul, Int32.reduceToInt] at *; omega)) (by first | omega | decide | (simp only [Int32.le_iff_toInt_le, Int32.lt_iff_toInt_lt, ti_add, ti_sub, ti_mul, Int32.reduceToInt] at *; omega)) (fun σ161 eσ161 hOσ161 hT => ?_)
                    have hB : ZB σ161.1 := by first | exact HQ | exact ZB_s eσ161 hB
                    exact ih156_35 (x6_35 + 1, σ161) (show Tr [227, 228, 229] σ0 σ161 ∧ (0 ≤ (x6_35 + 1).toInt) ∧ (ZB σ161.1) from ⟨hT, (by first | omega | decide | (simp only [Int32.le_iff_toInt_le, Int32.lt_iff_toInt_lt, ti_add, ti_sub, ti_mul, Int32.reduceToInt] at *; omega)), hB⟩) (show ((1024 : Int32).toInt - (x6_35 + 1).toInt).toNat < ((1024 : Int32).toInt - x6_35.toInt).toNat from (by first | omega | decide | (simp only [Int32.le_iff_toInt_le, Int32.lt_iff_toInt_lt, ti_add, ti_sub, ti_mul, Int32.reduceToInt] at *; omega)))
                  · refine ok_aIn rfl (by first | omega | decide | (simp only [Int32.le_iff_toInt_le, Int32.lt_iff_toInt_lt, ti_add, ti_sub, ti_mul, Int32.reduceToInt] at *; omega)) (by first | omega | decide | (simp only [Int32.le_iff_toInt_le, Int32.lt_iff_toInt_lt, ti_add, ti_sub, ti_mul, Int32.reduceToInt] at *; omega)) (fun v162 ev162 => ?_)
                    have zv162 : v162 = 0 ∨ v162 = 1 := by rw [ev162]; exact hB 220 rfl _
                    refine ok_if (fun hc163 => ?_) (fun hc163 => ?_)
                    · refine ok_gR (v := 227) hT rfl (hR 218 17 rfl) ?_
                      refine ok_s16 hT rfl (by decide) (by first | omega | decide | (simp only [Int32.le_iff_toInt_le, Int32.lt_iff_toInt_lt, ti_add, ti_sub, ti_mul, Int32.reduceToInt] at *; omega)) (by first | omega | decide | (simp only [Int32.le_iff_toInt_le, Int32.lt_iff_toInt_lt, ti_add, ti_sub, ti_mul, Int32.reduceToInt] at *; omega)) (fun σ165 eσ165 hOσ165 hT => ?_)
                      have hB : ZB σ165.1 := by first | exact HQ | exact ZB_s eσ165 hB
                      exact ih156_35 (x6_35 + 1, σ165) (show Tr [227, 228, 229] σ0 σ165 ∧ (0 ≤ (x6_35 + 1).toInt) ∧ (ZB σ165.1) from ⟨hT, (by first | omega | decide | (simp only [Int32.le_iff_toInt_le, Int32.lt_iff_toInt_lt, ti_add, ti_sub, ti_mul, Int32.reduceToInt] at *; omega)), hB⟩) (show ((1024 : Int32).toInt - (x6_35 + 1).toInt).toNat < ((1024 : Int32).toInt - x6_35.toInt).toNat from (by first | omega | decide | (simp only [Int32.le_iff_toInt_le, Int32.lt_iff_toInt_lt, ti_add, ti_sub, ti_mul, Int32.reduceToInt] at *; omega)))
                    · refine ok_gC rfl ?_
                      refine ok_zbT (Q := fun V σ => V = 0 ∨ V = 1) hT (s_X12_isTouching_220 hN (hR.tr hT) (hB) (by first | exact ha | (rw [hT.2 218 (by decide)]; exact ha)) (by first | omega | decide | (simp only [Int32.le_iff_toInt_le, Int32.lt_iff_toInt_lt, ti_add, ti_sub, ti_mul, Int32.reduceToInt] at *; omega)) (by first | omega | decide | (simp only [Int32.le_iff_toInt_le, Int32.lt_iff_toInt_lt, ti_add, ti_sub, ti_mul, Int32.reduceToInt] at *; omega))) (fun _ h9 => absurd h9 List.not_mem_nil) (fun v166 σ167 hOσ167 hT hqv166 => ?_)
                      have hqv166 : v166 = 0 ∨ v166 = 1 := hqv166
                      have hB : ZB σ167.1 := ZB.tr hOσ167 (by decide) hB
                      refine ok_if (fun hc168 => ?_) (fun hc168 => ?_)
                      · refine ok_gR (v := 227) hT rfl (hR 218 17 rfl) ?_
                        refine ok_s16 hT rfl (by decide) (by first | omega | decide | (simp only [Int32.le_iff_toInt_le, Int32.lt_iff_toInt_lt, ti_add, ti_sub, ti_mul, Int32.reduceToInt] at *; omega)) (by first | omega | decide | (simp only [Int32.le_iff_toInt_le, Int32.lt_iff_toInt_lt, ti_add, ti_sub, ti_mul, Int32.reduceToInt] at *; omega)) (fun σ170 eσ170 hOσ170 hT => ?_)
                        have hB : ZB σ170.1 := by first | exact HQ | exact ZB_s eσ170 hB
                        exact ih156_35 (x6_35 + 1, σ170) (show Tr [227, 228, 229] σ0 σ170 ∧ (0 ≤ (x6_35 + 1).toInt) ∧ (ZB σ170.1) from ⟨hT, (by first | omega | decide | (simp only [Int32.le_iff_toInt_le, Int32.lt_iff_toInt_lt, ti_add, ti_sub, ti_mul, Int32.reduceToInt] at *; omega)), hB⟩) (show ((1024 : Int32).toInt - (x6_35 + 1).toInt).toNat < ((1024 : Int32).toInt - x6_35.toInt).toNat from (by first | omega | decide | (simp only [Int32.le_iff_toInt_le, Int32.lt_iff_toInt_lt, ti_add, ti_sub, ti_mul, Int32.reduceToInt] at *; omega)))
                      · refine ok_gR (v := 227) hT rfl (hR 218 17 rfl) ?_
                        refine ok_s16 hT rfl (by decide) (by first | omega | decide | (simp only [Int32.le_iff_toInt_le, Int32.lt_iff_toInt_lt, ti_add, ti_sub, ti_mul, Int32.reduceToInt] at *; omega)) (by first | omega | decide | (simp only [Int32.le_iff_toInt_le, Int32.lt_iff_toInt_lt, ti_add, ti_sub, ti_mul, Int32.reduceToInt] at *; omega)) (fun σ172 eσ172 hOσ172 hT => ?_)
                        have hB : ZB σ172.1 := by first | exact HQ | exact ZB_s eσ172 hB
                        exact ih156_35 (x6_35 + 1, σ172) (show Tr [227, 228, 229] σ0 σ172 ∧ (0 ≤ (x6_35 + 1).toInt) ∧ (ZB σ172.1) from ⟨hT, (by first | omega | decide | (simp only [Int32.le_iff_toInt_le, Int32.lt_iff_toInt_lt, ti_add, ti_sub, ti_mul, Int32.reduceToInt] at *; omega)), hB⟩) (show ((1024 : Int32).toInt - (x6_35 + 1).toInt).toNat < ((1024 : Int32).toInt - x6_35.toInt).toNat from (by first | omega | decide | (simp only [Int32.le_iff_toInt_le, Int32.lt_iff_toInt_lt, ti_add, ti_sub, ti_mul, Int32.reduceToInt] at *; omega)))

set_option maxHeartbeats 4000000 in
set_option maxRecDepth 100000 in
theorem s_X12_gives_226_226 {N : Nat} (hN : 1048576 ≤ N) {x1 : Int32} {x3 : Int32} {x5 : Int32} {σ0 : zS}  (hR : RF σ0.2.2) (hB : ZB σ0.1) (ha : 0 ≤ (σ0.1 218 20).toInt ∧ (σ0.1 218 20).toInt ≤ 1024) (h3 : 0 ≤ x3.toInt ∧ x3.toInt ≤ 17408) (h5 : 0 ≤ x5.toInt ∧ x5.toInt ≤ 17408) : Ok (f_X12_gives N 218 x1 226 x3 226 x5 σ0) (fun r => Tr [227, 228, 229] σ0 r.2 ∧ (ZB r.2.1)) := by
  have hT : Tr [227, 228, 229] σ0 σ0 := Tr.rf
  rw [f_X12_gives.eq_1]
  refine ok_if (fun hc1 => ?_) (fun hc1 => ?_)
  · refine ok_gR (v := 227) hT rfl (hR 218 17 rfl) ?_
    refine ok_gC rfl ?_
    refine ok_zbT (Q := fun V σ => ZB σ.1) hT (s_X12_joins_226_226_227 hN (hR.tr hT) (hB) (by first | exact ha | (rw [hT.2 218 (by decide)]; exact ha)) (by first | omega | decide | (simp only [Int32.le_iff_toInt_le, Int32.lt_iff_toInt_lt, ti_add, ti_sub, ti_mul, Int32.reduceToInt] at *; omega)) (by first | omega | decide | (simp only [Int32.le_iff_toInt_le, Int32.lt_iff_toInt_lt, ti_add, ti_sub, ti_mul, Int32.reduceToInt] at *; omega))) (by decide) (fun v3 σ4 hOσ4 hT hqv3 => ?_)
    have hqv3 : ZB σ4.1 := hqv3
    have hB : ZB σ4.1 := by first | exact hqv3 | exact ZB_s eσ4 hB
    exact ok_some ⟨hT, (show ZB σ4.1 from by exact hB)⟩
  · refine ok_if (fun hc5 => ?_) (fun hc5 => ?_)
    · refine ok_lp (fun t : Int32 × zS => Tr [227, 228, 229] σ0 (t.2) ∧ (0 ≤ (t.1).toInt) ∧ (ZB (t.2).1)) (fun t : Int32 × zS => ((1024 : Int32).toInt - (t.1).toInt).toNat) (fun again6 t hI ih28_6 => ?_) N _ (show Tr [227, 228, 229] σ0 σ0 ∧ (0 ≤ (0 : Int32).toInt) ∧ (ZB σ0.1) from ⟨hT, (by first | omega | decide | (simp only [Int32.le_iff_toInt_le, Int32.lt_iff_toInt_lt, ti_add, ti_sub, ti_mul, Int32.reduceToInt] at *; omega)), hB⟩) (show ((1024 : Int32).toInt - (0 : Int32).toInt).toNat < N from (by first | omega | decide | (simp only [Int32.le_iff_toInt_le, Int32.lt_iff_toInt_lt, ti_add, ti_sub, ti_mul, Int32.reduceToInt] at *; omega)))
      obtain ⟨x6_6, σ6⟩ := t
      have hI : Tr [227, 228, 229] σ0 σ6 ∧ (0 ≤ x6_6.toInt) ∧ (ZB σ6.1) := hI
      obtain ⟨hT, hI6, hB⟩ := hI
      rw [F_X12_gives_28.eq_1]
      refine ok_if (fun hc7 => ?_) (fun hc7 => ?_)
      · refine ok_gR (v := 228) hT rfl (hR 218 18 rfl) ?_
        refine ok_gR (v := 229) hT rfl (hR 218 19 rfl) ?_
        refine ok_gC rfl ?_
        refine ok_zbT (Q := fun V σ => ZB σ.1) hT (s_X12_joins_226_228_229 hN (hR.tr hT) (hB) (by first | exact ha | (rw [hT.2 218 (by decide)]; exact ha)) (by first | omega | decide | (simp only [Int32.le_iff_toInt_le, Int32.lt_iff_toInt_lt, ti_add, ti_sub, ti_mul, Int32.reduceToInt] at *; omega)) (by first | omega | decide | (simp only [Int32.le_iff_toInt_le, Int32.lt_iff_toInt_lt, ti_add, ti_sub, ti_mul, Int32.reduceToInt] at *; omega))) (by decide) (fun v10 σ11 hOσ11 hT hqv10 => ?_)
        have hqv10 : ZB σ11.1 := hqv10
        have hB : ZB σ11.1 := by first | exact hqv10 | exact ZB_s eσ11 hB
        refine ok_lp (fun t : Int32 × zS => Tr [227, 228, 229] σ0 (t.2) ∧ (0 ≤ (t.1).toInt) ∧ (ZB (t.2).1)) (fun t : Int32 × zS => ((1024 : Int32).toInt - (t.1).toInt).toNat) (fun again12 t hI ih98_12 => ?_) N _ (show Tr [227, 228, 229] σ0 σ11 ∧ (0 ≤ (0 : Int32).toInt) ∧ (ZB σ11.1) from ⟨hT, (by first | omega | decide | (simp only [Int32.le_iff_toInt_le, Int32.lt_iff_toInt_lt, ti_add, ti_sub, ti_mul, Int32.reduceToInt] at *; omega)), hB⟩) (show ((1024 : Int32).toInt - (0 : Int32).toInt).toNat < N from (by first | omega | decide | (simp only [Int32.le_iff_toInt_le, Int32.lt_iff_toInt_lt, ti_add, ti_sub, ti_mul, Int32.reduceToInt] at *; omega)))
        obtain ⟨x6_12, σ12⟩ := t
        have hI : Tr [227, 228, 229] σ0 σ12 ∧ (0 ≤ x6_12.toInt) ∧ (ZB σ12.1) := hI
        obtain ⟨hT, hI12, hB⟩ := hI
        rw [F_X12_gives_98.eq_1]
        refine ok_if (fun hc13 => ?_) (fun hc13 => ?_)
        · exact ok_some ⟨hT, (show ZB σ12.1 from by exact hB)⟩
        · refine ok_gR (v := 227) hT rfl (hR 218 17 rfl) ?_
          refine ok_gI0 hT rfl (by decide) ?_
          refine ok_if (fun hc16 => ?_) (fun hc16 => ?_)
          · refine ok_s16 hT rfl (by decide) (by first | omega | decide | (simp only [Int32.le_iff_toInt_le, Int32.lt_iff_toInt_lt, ti_add, ti_sub, ti_mul, Int32.reduceToInt] at *; omega)) (by first | omega | decide | (simp only [Int32.le_iff_toInt_le, Int32.lt_iff_toInt_lt, ti_add, ti_sub, ti_mul, Int32.reduceToInt] at *; omega)) (fun σ17 eσ17 hOσ17 hT => ?_)
            have hB : ZB σ17.1 := by first | exact HQ | exact ZB_s eσ17 hB
            exact ih98_12 (x6_12 + 1, σ17) (show Tr [227, 228, 229] σ0 σ17 ∧ (0 ≤ (x6_12 + 1).toInt) ∧ (ZB σ17.1) from ⟨hT, (by first | omega | decide | (simp only [Int32.le_iff_toInt_le, Int32.lt_iff_toInt_lt, ti_add, ti_sub, ti_mul, Int32.reduceToInt] at *; omega)), hB⟩) (show ((1024 : Int32).toInt - (x6_12 + 1).toInt).toNat < ((1024 : Int32).toInt - x6_12.toInt).toNat from (by first | omega | decide | (simp only [Int32.le_iff_toInt_le, Int32.lt_iff_toInt_lt, ti_add, ti_sub, ti_mul, Int32.reduceToInt] at *; omega)))
          · refine ok_aIn rfl (by first | omega | decide | (simp only [Int32.le_iff_toInt_le, Int32.lt_iff_toInt_lt, ti_add, ti_sub, ti_mul, Int32.reduceToInt] at *; omega)) (by first | omega | decide | (simp only [Int32.le_iff_toInt_le, Int32.lt_iff_toInt_lt, ti_add, ti_sub, ti_mul, Int32.reduceToInt] at *; omega)) (fun v18 ev18 => ?_)
            have zv18 : v18 = 0 ∨ v18 = 1 := by rw [ev18]; exact hB 226 rfl _
            refine ok_if (fun hc19 => ?_) (fun hc19 => ?_)
            · refine ok_s16 hT rfl (by decide) (by first | omega | decide | (simp only [Int32.le_iff_toInt_le, Int32.lt_iff_toInt_lt, ti_add, ti_sub, ti_mul, Int32.reduceToInt] at *; omega)) (by first | omega | decide | (simp only [Int32.le_iff_toInt_le, Int32.lt_iff_toInt_lt, ti_add, ti_sub, ti_mul, Int32.reduceToInt] at *; omega)) (fun σ20 eσ20 hOσ20 hT => ?_)
              have hB : ZB σ20.1 := by first | exact HQ | exact ZB_s eσ20 hB
              exact ih98_12 (x6_12 + 1, σ20) (show Tr [227, 228, 229] σ0 σ20 ∧ (0 ≤ (x6_12 + 1).toInt) ∧ (ZB σ20.1) from ⟨hT, (by first | omega | decide | (simp only [Int32.le_iff_toInt_le, Int32.lt_iff_toInt_lt, ti_add, ti_sub, ti_mul, Int32.reduceToInt] at *; omega)), hB⟩) (show ((1024 : Int32).toInt - (x6_12 + 1).toInt).toNat < ((1024 : Int32).toInt - x6_12.toInt).toNat from (by first | omega | decide | (simp only [Int32.le_iff_toInt_le, Int32.lt_iff_toInt_lt, ti_add, ti_sub, ti_mul, Int32.reduceToInt] at *; omega)))
            · refine ok_gR (v := 229) hT rfl (hR 218 19 rfl) ?_
              refine ok_aIn rfl (by first | omega | decide | (simp only [Int32.le_iff_toInt_le, Int32.lt_iff_toInt_lt, ti_add, ti_sub, ti_mul, Int32.reduceToInt] at *; omega)) (by first | omega | decide | (simp only [Int32.le_iff_toInt_le, Int32.lt_iff_toInt_lt, ti_add, ti_sub, ti_mul, Int32.reduceToInt] at *; omega)) (fun v22 ev22 => ?_)
              have zv22 : v22 = 0 ∨ v22 = 1 := by rw [ev22]; exact hB 229 rfl _
              refine ok_if (fun hc23 => ?_) (fun hc23 => ?_)
              · refine ok_s16 hT rfl (by decide) (by first | omega | decide | (simp only [Int32.le_iff_toInt_le, Int32.lt_iff_toInt_lt, ti_add, ti_sub, ti_mul, Int32.reduceToInt] at *; omega)) (by first | omega | decide | (simp only [Int32.le_iff_toInt_le, Int32.lt_iff_toInt_lt, ti_add, ti_sub, ti_mul, Int32.reduceToInt] at *; omega)) (fun σ24 eσ24 hOσ24 hT => ?_)
                have hB : ZB σ24.1 := by first | exact HQ | exact ZB_s eσ24 hB
                exact ih98_12 (x6_12 + 1, σ24) (show Tr [227, 228, 229] σ0 σ24 ∧ (0 ≤ (x6_12 + 1).toInt) ∧ (ZB σ24.1) from ⟨hT, (by first | omega | decide | (simp only [Int32.le_iff_toInt_le, Int32.lt_iff_toInt_lt, ti_add, ti_sub, ti_mul, Int32.reduceToInt] at *; omega)), hB⟩) (show ((1024 : Int32).toInt - (x6_12 + 1).toInt).toNat < ((1024 : Int32).toInt - x6_12.toInt).toNat from (by first | omega | decide | (simp only [Int32.le_iff_toInt_le, Int32.lt_iff_toInt_lt, ti_add, ti_sub, ti_mul, Int32.reduceToInt] at *; omega)))
              · refine ok_s16 hT rfl (by decide) (by first | omega | decide | (simp only [Int32.le_iff_toInt_le, Int32.lt_iff_toInt_lt, ti_add, ti_sub, ti_mul, Int32.reduceToInt] at *; omega)) (by first | omega | decide | (simp only [Int32.le_iff_toInt_le, Int32.lt_iff_toInt_lt, ti_add, ti_sub, ti_mul, Int32.reduceToInt] at *; omega)) (fun σ25 eσ25 hOσ25 hT => ?_)
                have hB : ZB σ25.1 := by first | exact HQ | exact ZB_s eσ25 hB
                exact ih98_12 (x6_12 + 1, σ25) (show Tr [227, 228, 229] σ0 σ25 ∧ (0 ≤ (x6_12 + 1).toInt) ∧ (ZB σ25.1) from ⟨hT, (by first | omega | decide | (simp only [Int32.le_iff_toInt_le, Int32.lt_iff_toInt_lt, ti_add, ti_sub, ti_mul, Int32.reduceToInt] at *; omega)), hB⟩) (show ((1024 : Int32).toInt - (x6_12 + 1).toInt).toNat < ((1024 : Int32).toInt - x6_12.toInt).toNat from (by first | omega | decide | (simp only [Int32.le_iff_toInt_le, Int32.lt_iff_toInt_lt, ti_add, ti_sub, ti_mul, Int32.reduceToInt] at *; omega)))
      · refine ok_gR (v := 228) hT rfl (hR 218 18 rfl) ?_
        refine ok_gI0 hT rfl (by decide) ?_
        refine ok_if (fun hc28 => ?_) (fun hc28 => ?_)
        · refine ok_s16 hT rfl (by decide) (by first | omega | decide | (simp only [Int32.le_iff_toInt_le, Int32.lt_iff_toInt_lt, ti_add, ti_sub, ti_mul, Int32.reduceToInt] at *; omega)) (by first | omega | decide | (simp only [Int32.le_iff_toInt_le, Int32.lt_iff_toInt_lt, ti_add, ti_sub, ti_mul, Int32.reduceToInt] at *; omega)) (fun σ29 eσ29 hOσ29 hT => ?_)
          have hB : ZB σ29.1 := by first | exact HQ | exact ZB_s eσ29 hB
          exact ih28_6 (x6_6 + 1, σ29) (show Tr [227, 228, 229] σ0 σ29 ∧ (0 ≤ (x6_6 + 1).toInt) ∧ (ZB σ29.1) from ⟨hT, (by first | omega | decide | (simp only [Int32.le_iff_toInt_le, Int32.lt_iff_toInt_lt, ti_add, ti_sub, ti_mul, Int32.reduceToInt] at *; omega)), hB⟩) (show ((1024 : Int32).toInt - (x6_6 + 1).toInt).toNat < ((1024 : Int32).toInt - x6_6.toInt).toNat from (by first | omega | decide | (simp only [Int32.le_iff_toInt_le, Int32.lt_iff_toInt_lt, ti_add, ti_sub, ti_mul, Int32.reduceToInt] at *; omega)))
        · refine ok_gC rfl ?_
          refine ok_zbT (Q := fun V σ => V = 0 ∨ V = 1) hT (s_X12_isOver_226_226 hN (hR.tr hT) (hB) (by first | exact ha | (rw [hT.2 218 (by decide)]; exact ha)) (by first | omega | decide | (simp only [Int32.le_iff_toInt_le, Int32.lt_iff_toInt_lt, ti_add, ti_sub, ti_mul, Int32.reduceToInt] at *; omega)) (by first | omega | decide | (simp only [Int32.le_iff_toInt_le, Int32.lt_iff_toInt_lt, ti_add, ti_sub, ti_mul, Int32.reduceToInt] at *; omega)) (by first | omega | decide | (simp only [Int32.le_iff_toInt_le, Int32.lt_iff_toInt_lt, ti_add, ti_sub, ti_mul, Int32.reduceToInt] at *; omega))) (fun _ h9 => absurd h9 List.not_mem_nil) (fun v30 σ31 hOσ31 hT hqv30 => ?_)
          have hqv30 : v30 = 0 ∨ v30 = 1 := hqv30
          have hB : ZB σ31.1 := ZB.tr hOσ31 (by decide) hB
          refine ok_if (fun hc32 => ?_) (fun hc32 => ?_)
          · refine ok_s16 hT rfl (by decide) (by first | omega | decide | (simp only [Int32.le_iff_toInt_le, Int32.lt_iff_toInt_lt, ti_add, ti_sub, ti_mul, Int32.reduceToInt] at *; omega)) (by first | omega | decide | (simp only [Int32.le_iff_toInt_le, Int32.lt_iff_toInt_lt, ti_add, ti_sub, ti_mul, Int32.reduceToInt] at *; omega)) (fun σ33 eσ33 hOσ33 hT => ?_)
            have hB : ZB σ33.1 := by first | exact HQ | exact ZB_s eσ33 hB
            exact ih28_6 (x6_6 + 1, σ33) (show Tr [227, 228, 229] σ0 σ33 ∧ (0 ≤ (x6_6 + 1).toInt) ∧ (ZB σ33.1) from ⟨hT, (by first | omega | decide | (simp only [Int32.le_iff_toInt_le, Int32.lt_iff_toInt_lt, ti_add, ti_sub, ti_mul, Int32.reduceToInt] at *; omega)), hB⟩) (show ((1024 : Int32).toInt - (x6_6 + 1).toInt).toNat < ((1024 : Int32).toInt - x6_6.toInt).toNat from (by first | omega | decide | (simp only [Int32.le_iff_toInt_le, Int32.lt_iff_toInt_lt, ti_add, ti_sub, ti_mul, Int32.reduceToInt] at *; omega)))
          · refine ok_s16 hT rfl (by decide) (by first | omega | decide | (simp only [Int32.le_iff_toInt_le, Int32.lt_iff_toInt_lt, ti_add, ti_sub, ti_mul, Int32.reduceToInt] at *; omega)) (by first | omega | decide | (simp only [Int32.le_iff_toInt_le, Int32.lt_iff_toInt_lt, ti_add, ti_sub, ti_mul, Int32.reduceToInt] at *; omega)) (fun σ34 eσ34 hOσ34 hT => ?_)
            have hB : ZB σ34.1 := by first | exact HQ | exact ZB_s eσ34 hB
            exact ih28_6 (x6_6 + 1, σ34) (show Tr [227, 228, 229] σ0 σ34 ∧ (0 ≤ (x6_6 + 1).toInt) ∧ (ZB σ34.1) from ⟨hT, (by first | omega | decide | (simp only [Int32.le_iff_toInt_le, Int32.lt_iff_toInt_lt, ti_add, ti_sub, ti_mul, Int32.reduceToInt] at *; omega)), hB⟩) (show ((1024 : Int32).toInt - (x6_6 + 1).toInt).toNat < ((1024 : Int32).toInt - x6_6.toInt).toNat from (by first | omega | decide | (simp only [Int32.le_iff_toInt_le, Int32.lt_iff_toInt_lt, ti_add, ti_sub, ti_mul, Int32.reduceToInt] at *; omega)))
    · refine ok_lp (fun t : Int32 × zS => Tr [227, 228, 229] σ0 (t.2) ∧ (0 ≤ (t.1).toInt) ∧ (ZB (t.2).1)) (fun t : Int32 × zS => ((1024 : Int32).toInt - (t.1).toInt).toNat) (fun again35 t hI ih156_35 => ?_) N _ (show Tr [227, 228, 229] σ0 σ0 ∧ (0 ≤ (0 : Int32).toInt) ∧ (ZB σ0.1) from ⟨hT, (by first | omega | decide | (simp only [Int32.le_iff_toInt_le, Int32.lt_iff_toInt_lt, ti_add, ti_sub, ti_mul, Int32.reduceToInt] at *; omega)), hB⟩) (show ((1024 : Int32).toInt - (0 : Int32).toInt).toNat < N from (by first | omega | decide | (simp only [Int32.le_iff_toInt_le, Int32.lt_iff_toInt_lt, ti_add, ti_sub, ti_mul, Int32.reduceToInt] at *; omega)))
      obtain ⟨x6_35, σ35⟩ := t
      have hI : Tr [227, 228, 229] σ0 σ35 ∧ (0 ≤ x6_35.toInt) ∧ (ZB σ35.1) := hI
      obtain ⟨hT, hI35, hB⟩ := hI
      rw [F_X12_gives_156.eq_1]
      refine ok_if (fun hc36 => ?_) (fun hc36 => ?_)
      · exact ok_some ⟨hT, (show ZB σ35.1 from by exact hB)⟩
      · refine ok_gI0 hT rfl (by decide) ?_
        refine ok_if (fun hc38 => ?_) (fun hc38 => ?_)
        · rw [J_X12_gives_178.eq_1]
          refine ok_if (fun hc39 => ?_) (fun hc39 => ?_)
          · refine ok_if (fun hc40 => ?_) (fun hc40 => ?_)
            · refine ok_gR (v := 227) hT rfl (hR 218 17 rfl) ?_
              refine ok_s16 hT rfl (by decide) (by first | omega | decide | (simp only [Int32.le_iff_toInt_le, Int32.lt_iff_toInt_lt, ti_add, ti_sub, ti_mul, Int32.reduceToInt] at *; omega)) (by first | omega | decide | (simp only [Int32.le_iff_toInt_le, Int32.lt_iff_toInt_lt, ti_add, ti_sub, ti_mul, Int32.reduceToInt] at *; omega)) (fun σ42 eσ42 hOσ42 hT => ?_)
              have hB : ZB σ42.1 := by first | exact HQ | exact ZB_s eσ42 hB
              exact ih156_35 (x6_35 + 1, σ42) (show Tr [227, 228, 229] σ0 σ42 ∧ (0 ≤ (x6_35 + 1).toInt) ∧ (ZB σ42.1) from ⟨hT, (by first | omega | decide | (simp only [Int32.le_iff_toInt_le, Int32.lt_iff_toInt_lt, ti_add, ti_sub, ti_mul, Int32.reduceToInt] at *; omega)), hB⟩) (show ((1024 : Int32).toInt - (x6_35 + 1).toInt).toNat < ((1024 : Int32).toInt - x6_35.toInt).toNat from (by first | omega | decide | (simp only [Int32.le_iff_toInt_le, Int32.lt_iff_toInt_lt, ti_add, ti_sub, ti_mul, Int32.reduceToInt] at *; omega)))
            · refine ok_aIn rfl (by first | omega | decide | (simp only [Int32.le_iff_toInt_le, Int32.lt_iff_toInt_lt, ti_add, ti_sub, ti_mul, Int32.reduceToInt] at *; omega)) (by first | omega | decide | (simp only [Int32.le_iff_toInt_le, Int32.lt_iff_toInt_lt, ti_add, ti_sub, ti_mul, Int32.reduceToInt] at *; omega)) (fun v43 ev43 => ?_)
              have zv43 : v43 = 0 ∨ v43 = 1 := by rw [ev43]; exact hB 226 rfl _
              refine ok_if (fun hc44 => ?_) (fun hc44 => ?_)
              · refine ok_aIn rfl (by first | omega | decide | (simp only [Int32.le_iff_toInt_le, Int32.lt_iff_toInt_lt, ti_add, ti_sub, ti_mul, Int32.reduceToInt] at *; omega)) (by first | omega | decide | (simp only [Int32.le_iff_toInt_le, Int32.lt_iff_toInt_lt, ti_add, ti_sub, ti_mul, Int32.reduceToInt] at *; omega)) (fun v45 ev45 => ?_)
                have zv45 : v45 = 0 ∨ v45 = 1 := by rw [ev45]; exact hB 226 rfl _
                refine ok_if (fun hc46 => ?_) (fun hc46 => ?_)
                · refine ok_gR (v := 227) hT rfl (hR 218 17 rfl) ?_
                  refine ok_s16 hT rfl (by decide) (by first | omega | decide | (simp only [Int32.le_iff_toInt_le, Int32.lt_iff_toInt_lt, ti_add, ti_sub, ti_mul, Int32.reduceToInt] at *; omega)) (by first | omega | decide | (simp only [Int32.le_iff_toInt_le, Int32.lt_iff_toInt_lt, ti_add, ti_sub, ti_mul, Int32.reduceToInt] at *; omega)) (fun σ48 eσ48 hOσ48 hT => ?_)
                  have hB : ZB σ48.1 := by first | exact HQ | exact ZB_s eσ48 hB
                  exact ih156_35 (x6_35 + 1, σ48) (show Tr [227, 228, 229] σ0 σ48 ∧ (0 ≤ (x6_35 + 1).toInt) ∧ (ZB σ48.1) from ⟨hT, (by first | omega | decide | (simp only [Int32.le_iff_toInt_le, Int32.lt_iff_toInt_lt, ti_add, ti_sub, ti_mul, Int32.reduceToInt] at *; omega)), hB⟩) (show ((1024 : Int32).toInt - (x6_35 + 1).toInt).toNat < ((1024 : Int32).toInt - x6_35.toInt).toNat from (by first | omega | decide | (simp only [Int32.le_iff_toInt_le, Int32.lt_iff_toInt_lt, ti_add, ti_sub, ti_mul, Int32.reduceToInt] at *; omega)))
                · refine ok_gR (v := 227) hT rfl (hR 218 17 rfl) ?_
                  refine ok_s16 hT rfl (by decide) (by first | omega | decide | (simp only [Int32.le_iff_toInt_le, Int32.lt_iff_toInt_lt, ti_add, ti_sub, ti_mul, Int32.reduceToInt] at *; omega)) (by first | omega | decide | (simp only [Int32.le_iff_toInt_le, Int32.lt_iff_toInt_lt, ti_add, ti_sub, ti_mul, Int32.reduceToInt] at *; omega)) (fun σ50 eσ50 hOσ50 hT => ?_)
                  have hB : ZB σ50.1 := by first | exact HQ | exact ZB_s eσ50 hB
                  exact ih156_35 (x6_35 + 1, σ50) (show Tr [227, 228, 229] σ0 σ50 ∧ (0 ≤ (x6_35 + 1).toInt) ∧ (ZB σ50.1) from ⟨hT, (by first | omega | decide | (simp only [Int32.le_iff_toInt_le, Int32.lt_iff_toInt_lt, ti_add, ti_sub, ti_mul, Int32.reduceToInt] at *; omega)), hB⟩) (show ((1024 : Int32).toInt - (x6_35 + 1).toInt).toNat < ((1024 : Int32).toInt - x6_35.toInt).toNat from (by first | omega | decide | (simp only [Int32.le_iff_toInt_le, Int32.lt_iff_toInt_lt, ti_add, ti_sub, ti_mul, Int32.reduceToInt] at *; omega)))
              · refine ok_gR (v := 227) hT rfl (hR 218 17 rfl) ?_
                refine ok_s16 hT rfl (by decide) (by first | omega | decide | (simp only [Int32.le_iff_toInt_le, Int32.lt_iff_toInt_lt, ti_add, ti_sub, ti_mul, Int32.reduceToInt] at *; omega)) (by first | omega | decide | (simp only [Int32.le_iff_toInt_le, Int32.lt_iff_toInt_lt, ti_add, ti_sub, ti_mul, Int32.reduceToInt] at *; omega)) (fun σ52 eσ52 hOσ52 hT => ?_)
                have hB : ZB σ52.1 := by first | exact HQ | exact ZB_s eσ52 hB
                exact ih156_35 (x6_35 + 1, σ52) (show Tr [227, 228, 229] σ0 σ52 ∧ (0 ≤ (x6_35 + 1).toInt) ∧ (ZB σ52.1) from ⟨hT, (by first | omega | decide | (simp only [Int32.le_iff_toInt_le, Int32.lt_iff_toInt_lt, ti_add, ti_sub, ti_mul, Int32.reduceToInt] at *; omega)), hB⟩) (show ((1024 : Int32).toInt - (x6_35 + 1).toInt).toNat < ((1024 : Int32).toInt - x6_35.toInt).toNat from (by first | omega | decide | (simp only [Int32.le_iff_toInt_le, Int32.lt_iff_toInt_lt, ti_add, ti_sub, ti_mul, Int32.reduceToInt] at *; omega)))
          · refine ok_if (fun hc53 => ?_) (fun hc53 => ?_)
            · refine ok_if (fun hc54 => ?_) (fun hc54 => ?_)
              · refine ok_gR (v := 227) hT rfl (hR 218 17 rfl) ?_
                refine ok_s16 hT rfl (by decide) (by first | omega | decide | (simp only [Int32.le_iff_toInt_le, Int32.lt_iff_toInt_lt, ti_add, ti_sub, ti_mul, Int32.reduceToInt] at *; omega)) (by first | omega | decide | (simp only [Int32.le_iff_toInt_le, Int32.lt_iff_toInt_lt, ti_add, ti_sub, ti_mul, Int32.reduceToInt] at *; omega)) (fun σ56 eσ56 hOσ56 hT => ?_)
                have hB : ZB σ56.1 := by first | exact HQ | exact ZB_s eσ56 hB
                exact ih156_35 (x6_35 + 1, σ56) (show Tr [227, 228, 229] σ0 σ56 ∧ (0 ≤ (x6_35 + 1).toInt) ∧ (ZB σ56.1) from ⟨hT, (by first | omega | decide | (simp only [Int32.le_iff_toInt_le, Int32.lt_iff_toInt_lt, ti_add, ti_sub, ti_mul, Int32.reduceToInt] at *; omega)), hB⟩) (show ((1024 : Int32).toInt - (x6_35 + 1).toInt).toNat < ((1024 : Int32).toInt - x6_35.toInt).toNat from (by first | omega | decide | (simp only [Int32.le_iff_toInt_le, Int32.lt_iff_toInt_lt, ti_add, ti_sub, ti_mul, Int32.reduceToInt] at *; omega)))
              · refine ok_aIn rfl (by first | omega | decide | (simp only [Int32.le_iff_toInt_le, Int32.lt_iff_toInt_lt, ti_add, ti_sub, ti_mul, Int32.reduceToInt] at *; omega)) (by first | omega | decide | (simp only [Int32.le_iff_toInt_le, Int32.lt_iff_toInt_lt, ti_add, ti_sub, ti_mul, Int32.reduceToInt] at *; omega)) (fun v57 ev57 => ?_)
                have zv57 : v57 = 0 ∨ v57 = 1 := by rw [ev57]; exact hB 226 rfl _
                refine ok_if (fun hc58 => ?_) (fun hc58 => ?_)
                · refine ok_gR (v := 227) hT rfl (hR 218 17 rfl) ?_
                  refine ok_s16 hT rfl (by decide) (by first | omega | decide | (simp only [Int32.le_iff_toInt_le, Int32.lt_iff_toInt_lt, ti_add, ti_sub, ti_mul, Int32.reduceToInt] at *; omega)) (by first | omega | decide | (simp only [Int32.le_iff_toInt_le, Int32.lt_iff_toInt_lt, ti_add, ti_sub, ti_mul, Int32.reduceToInt] at *; omega)) (fun σ60 eσ60 hOσ60 hT => ?_)
                  have hB : ZB σ60.1 := by first | exact HQ | exact ZB_s eσ60 hB
                  exact ih156_35 (x6_35 + 1, σ60) (show Tr [227, 228, 229] σ0 σ60 ∧ (0 ≤ (x6_35 + 1).toInt) ∧ (ZB σ60.1) from ⟨hT, (by first | omega | decide | (simp only [Int32.le_iff_toInt_le, Int32.lt_iff_toInt_lt, ti_add, ti_sub, ti_mul, Int32.reduceToInt] at *; omega)), hB⟩) (show ((1024 : Int32).toInt - (x6_35 + 1).toInt).toNat < ((1024 : Int32).toInt - x6_35.toInt).toNat from (by first | omega | decide | (simp only [Int32.le_iff_toInt_le, Int32.lt_iff_toInt_lt, ti_add, ti_sub, ti_mul, Int32.reduceToInt] at *; omega)))
                · refine ok_aIn rfl (by first | omega | decide | (simp only [Int32.le_iff_toInt_le, Int32.lt_iff_toInt_lt, ti_add, ti_sub, ti_mul, Int32.reduceToInt] at *; omega)) (by first | omega | decide | (simp only [Int32.le_iff_toInt_le, Int32.lt_iff_toInt_lt, ti_add, ti_sub, ti_mul, Int32.reduceToInt] at *; omega)) (fun v61 ev61 => ?_)
                  have zv61 : v61 = 0 ∨ v61 = 1 := by rw [ev61]; exact hB 226 rfl _
                  refine ok_if (fun hc62 => ?_) (fun hc62 => ?_)
                  · refine ok_gR (v := 227) hT rfl (hR 218 17 rfl) ?_
                    refine ok_s16 hT rfl (by decide) (by first | omega | decide | (simp only [Int32.le_iff_toInt_le, Int32.lt_iff_toInt_lt, ti_add, ti_sub, ti_mul, Int32.reduceToInt] at *; omega)) (by first | omega | decide | (simp only [Int32.le_iff_toInt_le, Int32.lt_iff_toInt_lt, ti_add, ti_sub, ti_mul, Int32.reduceToInt] at *; omega)) (fun σ64 eσ64 hOσ64 hT => ?_)
                    have hB : ZB σ64.1 := by first | exact HQ | exact ZB_s eσ64 hB
                    exact ih156_35 (x6_35 + 1, σ64) (show Tr [227, 228, 229] σ0 σ64 ∧ (0 ≤ (x6_35 + 1).toInt) ∧ (ZB σ64.1) from ⟨hT, (by first | omega | decide | (simp only [Int32.le_iff_toInt_le, Int32.lt_iff_toInt_lt, ti_add, ti_sub, ti_mul, Int32.reduceToInt] at *; omega)), hB⟩) (show ((1024 : Int32).toInt - (x6_35 + 1).toInt).toNat < ((1024 : Int32).toInt - x6_35.toInt).toNat from (by first | omega | decide | (simp only [Int32.le_iff_toInt_le, Int32.lt_iff_toInt_lt, ti_add, ti_sub, ti_mul, Int32.reduceToInt] at *; omega)))
                  · refine ok_gR (v := 227) hT rfl (hR 218 17 rfl) ?_
                    refine ok_s16 hT rfl (by decide) (by first | omega | decide | (simp only [Int32.le_iff_toInt_le, Int32.lt_iff_toInt_lt, ti_add, ti_sub, ti_mul, Int32.reduceToInt] at *; omega)) (by first | omega | decide | (simp only [Int32.le_iff_toInt_le, Int32.lt_iff_toInt_lt, ti_add, ti_sub, ti_mul, Int32.reduceToInt] at *; omega)) (fun σ66 eσ66 hOσ66 hT => ?_)
                    have hB : ZB σ66.1 := by first | exact HQ | exact ZB_s eσ66 hB
                    exact ih156_35 (x6_35 + 1, σ66) (show Tr [227, 228, 229] σ0 σ66 ∧ (0 ≤ (x6_35 + 1).toInt) ∧ (ZB σ66.1) from ⟨hT, (by first | omega | decide | (simp only [Int32.le_iff_toInt_le, Int32.lt_iff_toInt_lt, ti_add, ti_sub, ti_mul, Int32.reduceToInt] at *; omega)), hB⟩) (show ((1024 : Int32).toInt - (x6_35 + 1).toInt).toNat < ((1024 : Int32).toInt - x6_35.toInt).toNat from (by first | omega | decide | (simp only [Int32.le_iff_toInt_le, Int32.lt_iff_toInt_lt, ti_add, ti_sub, ti_mul, Int32.reduceToInt] at *; omega)))
            · refine ok_if (fun hc67 => ?_) (fun hc67 => ?_)
              · refine ok_if (fun hc68 => ?_) (fun hc68 => ?_)
                · refine ok_gR (v := 227) hT rfl (hR 218 17 rfl) ?_
                  refine ok_s16 hT rfl (by decide) (by first | omega | decide | (simp only [Int32.le_iff_toInt_le, Int32.lt_iff_toInt_lt, ti_add, ti_sub, ti_mul, Int32.reduceToInt] at *; omega)) (by first | omega | decide | (simp only [Int32.le_iff_toInt_le, Int32.lt_iff_toInt_lt, ti_add, ti_sub, ti_mul, Int32.reduceToInt] at *; omega)) (fun σ70 eσ70 hOσ70 hT => ?_)
                  have hB : ZB σ70.1 := by first | exact HQ | exact ZB_s eσ70 hB
                  exact ih156_35 (x6_35 + 1, σ70) (show Tr [227, 228, 229] σ0 σ70 ∧ (0 ≤ (x6_35 + 1).toInt) ∧ (ZB σ70.1) from ⟨hT, (by first | omega | decide | (simp only [Int32.le_iff_toInt_le, Int32.lt_iff_toInt_lt, ti_add, ti_sub, ti_mul, Int32.reduceToInt] at *; omega)), hB⟩) (show ((1024 : Int32).toInt - (x6_35 + 1).toInt).toNat < ((1024 : Int32).toInt - x6_35.toInt).toNat from (by first | omega | decide | (simp only [Int32.le_iff_toInt_le, Int32.lt_iff_toInt_lt, ti_add, ti_sub, ti_mul, Int32.reduceToInt] at *; omega)))
                · refine ok_aIn rfl (by first | omega | decide | (simp only [Int32.le_iff_toInt_le, Int32.lt_iff_toInt_lt, ti_add, ti_sub, ti_mul, Int32.reduceToInt] at *; omega)) (by first | omega | decide | (simp only [Int32.le_iff_toInt_le, Int32.lt_iff_toInt_lt, ti_add, ti_sub, ti_mul, Int32.reduceToInt] at *; omega)) (fun v71 ev71 => ?_)
                  have zv71 : v71 = 0 ∨ v71 = 1 := by rw [ev71]; exact hB 226 rfl _
                  refine ok_if (fun hc72 => ?_) (fun hc72 => ?_)
                  · refine ok_gR (v := 227) hT rfl (hR 218 17 rfl) ?_
                    refine ok_s16 hT rfl (by decide) (by first | omega | decide | (simp only [Int32.le_iff_toInt_le, Int32.lt_iff_toInt_lt, ti_add, ti_sub, ti_mul, Int32.reduceToInt] at *; omega)) (by first | omega | decide | (simp only [Int32.le_iff_toInt_le, Int32.lt_iff_toInt_lt, ti_add, ti_sub, ti_mul, Int32.reduceToInt] at *; omega)) (fun σ74 eσ74 hOσ74 hT => ?_)
                    have hB : ZB σ74.1 := by first | exact HQ | exact ZB_s eσ74 hB
                    exact ih156_35 (x6_35 + 1, σ74) (show Tr [227, 228, 229] σ0 σ74 ∧ (0 ≤ (x6_35 + 1).toInt) ∧ (ZB σ74.1) from ⟨hT, (by first | omega | decide | (simp only [Int32.le_iff_toInt_le, Int32.lt_iff_toInt_lt, ti_add, ti_sub, ti_mul, Int32.reduceToInt] at *; omega)), hB⟩) (show ((1024 : Int32).toInt - (x6_35 + 1).toInt).toNat < ((1024 : Int32).toInt - x6_35.toInt).toNat from (by first | omega | decide | (simp only [Int32.le_iff_toInt_le, Int32.lt_iff_toInt_lt, ti_add, ti_sub, ti_mul, Int32.reduceToInt] at *; omega)))
                  · refine ok_aIn rfl (by first | omega | decide | (simp only [Int32.le_iff_toInt_le, Int32.lt_iff_toInt_lt, ti_add, ti_sub, ti_mul, Int32.reduceToInt] at *; omega)) (by first | omega | decide | (simp only [Int32.le_iff_toInt_le, Int32.lt_iff_toInt_lt, ti_add, ti_sub, ti_mul, Int32.reduceToInt] at *; omega)) (fun v75 ev75 => ?_)
                    have zv75 : v75 = 0 ∨ v75 = 1 := by rw [ev75]; exact hB 226 rfl _
                    refine ok_if (fun hc76 => ?_) (fun hc76 => ?_)
                    · refine ok_gR (v := 227) hT rfl (hR 218 17 rfl) ?_
                      refine ok_s16 hT rfl (by decide) (by first | omega | decide | (simp only [Int32.le_iff_toInt_le, Int32.lt_iff_toInt_lt, ti_add, ti_sub, ti_mul, Int32.reduceToInt] at *; omega)) (by first | omega | decide | (simp only [Int32.le_iff_toInt_le, Int32.lt_iff_toInt_lt, ti_add, ti_sub, ti_mul, Int32.reduceToInt] at *; omega)) (fun σ78 eσ78 hOσ78 hT => ?_)
                      have hB : ZB σ78.1 := by first | exact HQ | exact ZB_s eσ78 hB
                      exact ih156_35 (x6_35 + 1, σ78) (show Tr [227, 228, 229] σ0 σ78 ∧ (0 ≤ (x6_35 + 1).toInt) ∧ (ZB σ78.1) from ⟨hT, (by first | omega | decide | (simp only [Int32.le_iff_toInt_le, Int32.lt_iff_toInt_lt, ti_add, ti_sub, ti_mul, Int32.reduceToInt] at *; omega)), hB⟩) (show ((1024 : Int32).toInt - (x6_35 + 1).toInt).toNat < ((1024 : Int32).toInt - x6_35.toInt).toNat from (by first | omega | decide | (simp only [Int32.le_iff_toInt_le, Int32.lt_iff_toInt_lt, ti_add, ti_sub, ti_mul, Int32.reduceToInt] at *; omega)))
                    · refine ok_gR (v := 227) hT rfl (hR 218 17 rfl) ?_
                      refine ok_s16 hT rfl (by decide) (by first | omega | decide | (simp only [Int32.le_iff_toInt_le, Int32.lt_iff_toInt_lt, ti_add, ti_sub, ti_mul, Int32.reduceToInt] at *; omega)) (by first | omega | decide | (simp only [Int32.le_iff_toInt_le, Int32.lt_iff_toInt_lt, ti_add, ti_sub, ti_mul, Int32.reduceToInt] at *; omega)) (fun σ80 eσ80 hOσ80 hT => ?_)
                      have hB : ZB σ80.1 := by first | exact HQ | exact ZB_s eσ80 hB
                      exact ih156_35 (x6_35 + 1, σ80) (show Tr [227, 228, 229] σ0 σ80 ∧ (0 ≤ (x6_35 + 1).toInt) ∧ (ZB σ80.1) from ⟨hT, (by first | omega | decide | (simp only [Int32.le_iff_toInt_le, Int32.lt_iff_toInt_lt, ti_add, ti_sub, ti_mul, Int32.reduceToInt] at *; omega)), hB⟩) (show ((1024 : Int32).toInt - (x6_35 + 1).toInt).toNat < ((1024 : Int32).toInt - x6_35.toInt).toNat from (by first | omega | decide | (simp only [Int32.le_iff_toInt_le, Int32.lt_iff_toInt_lt, ti_add, ti_sub, ti_mul, Int32.reduceToInt] at *; omega)))
              · refine ok_if (fun hc81 => ?_) (fun hc81 => ?_)
                · refine ok_if (fun hc82 => ?_) (fun hc82 => ?_)
                  · refine ok_gR (v := 227) hT rfl (hR 218 17 rfl) ?_
                    refine ok_s16 hT rfl (by decide) (by first | omega | decide | (simp only [Int32.le_iff_toInt_le, Int32.lt_iff_toInt_lt, ti_add, ti_sub, ti_mul, Int32.reduceToInt] at *; omega)) (by first | omega | decide | (simp only [Int32.le_iff_toInt_le, Int32.lt_iff_toInt_lt, ti_add, ti_sub, ti_mul, Int32.reduceToInt] at *; omega)) (fun σ84 eσ84 hOσ84 hT => ?_)
                    have hB : ZB σ84.1 := by first | exact HQ | exact ZB_s eσ84 hB
                    exact ih156_35 (x6_35 + 1, σ84) (show Tr [227, 228, 229] σ0 σ84 ∧ (0 ≤ (x6_35 + 1).toInt) ∧ (ZB σ84.1) from ⟨hT, (by first | omega | decide | (simp only [Int32.le_iff_toInt_le, Int32.lt_iff_toInt_lt, ti_add, ti_sub, ti_mul, Int32.reduceToInt] at *; omega)), hB⟩) (show ((1024 : Int32).toInt - (x6_35 + 1).toInt).toNat < ((1024 : Int32).toInt - x6_35.toInt).toNat from (by first | omega | decide | (simp only [Int32.le_iff_toInt_le, Int32.lt_iff_toInt_lt, ti_add, ti_sub, ti_mul, Int32.reduceToInt] at *; omega)))
                  · refine ok_gC rfl ?_
                    refine ok_zbT (Q := fun V σ => V = 0 ∨ V = 1) hT (s_X12_isOver_226_226 hN (hR.tr hT) (hB) (by first | exact ha | (rw [hT.2 218 (by decide)]; exact ha)) (by first | omega | decide | (simp only [Int32.le_iff_toInt_le, Int32.lt_iff_toInt_lt, ti_add, ti_sub, ti_mul, Int32.reduceToInt] at *; omega)) (by first | omega | decide | (simp only [Int32.le_iff_toInt_le, Int32.lt_iff_toInt_lt, ti_add, ti_sub, ti_mul, Int32.reduceToInt] at *; omega)) (by first | omega | decide | (simp only [Int32.le_iff_toInt_le, Int32.lt_iff_toInt_lt, ti_add, ti_sub, ti_mul, Int32.reduceToInt] at *; omega))) (fun _ h9 => absurd h9 List.not_mem_nil) (fun v85 σ86 hOσ86 hT hqv85 => ?_)
                    have hqv85 : v85 = 0 ∨ v85 = 1 := hqv85
                    have hB : ZB σ86.1 := ZB.tr hOσ86 (by decide) hB
                    refine ok_if (fun hc87 => ?_) (fun hc87 => ?_)
                    · refine ok_gR (v := 227) hT rfl (hR 218 17 rfl) ?_
                      refine ok_s16 hT rfl (by decide) (by first | omega | decide | (simp only [Int32.le_iff_toInt_le, Int32.lt_iff_toInt_lt, ti_add, ti_sub, ti_mul, Int32.reduceToInt] at *; omega)) (by first | omega | decide | (simp only [Int32.le_iff_toInt_le, Int32.lt_iff_toInt_lt, ti_add, ti_sub, ti_mul, Int32.reduceToInt] at *; omega)) (fun σ89 eσ89 hOσ89 hT => ?_)
                      have hB : ZB σ89.1 := by first | exact HQ | exact ZB_s eσ89 hB
                      exact ih156_35 (x6_35 + 1, σ89) (show Tr [227, 228, 229] σ0 σ89 ∧ (0 ≤ (x6_35 + 1).toInt) ∧ (ZB σ89.1) from ⟨hT, (by first | omega | decide | (simp only [Int32.le_iff_toInt_le, Int32.lt_iff_toInt_lt, ti_add, ti_sub, ti_mul, Int32.reduceToInt] at *; omega)), hB⟩) (show ((1024 : Int32).toInt - (x6_35 + 1).toInt).toNat < ((1024 : Int32).toInt - x6_35.toInt).toNat from (by first | omega | decide | (simp only [Int32.le_iff_toInt_le, Int32.lt_iff_toInt_lt, ti_add, ti_sub, ti_mul, Int32.reduceToInt] at *; omega)))
                    · refine ok_gR (v := 227) hT rfl (hR 218 17 rfl) ?_
                      refine ok_s16 hT rfl (by decide) (by first | omega | decide | (simp only [Int32.le_iff_toInt_le, Int32.lt_iff_toInt_lt, ti_add, ti_sub, ti_mul, Int32.reduceToInt] at *; omega)) (by first | omega | decide | (simp only [Int32.le_iff_toInt_le, Int32.lt_iff_toInt_lt, ti_add, ti_sub, ti_mul, Int32.reduceToInt] at *; omega)) (fun σ91 eσ91 hOσ91 hT => ?_)
                      have hB : ZB σ91.1 := by first | exact HQ | exact ZB_s eσ91 hB
                      exact ih156_35 (x6_35 + 1, σ91) (show Tr [227, 228, 229] σ0 σ91 ∧ (0 ≤ (x6_35 + 1).toInt) ∧ (ZB σ91.1) from ⟨hT, (by first | omega | decide | (simp only [Int32.le_iff_toInt_le, Int32.lt_iff_toInt_lt, ti_add, ti_sub, ti_mul, Int32.reduceToInt] at *; omega)), hB⟩) (show ((1024 : Int32).toInt - (x6_35 + 1).toInt).toNat < ((1024 : Int32).toInt - x6_35.toInt).toNat from (by first | omega | decide | (simp only [Int32.le_iff_toInt_le, Int32.lt_iff_toInt_lt, ti_add, ti_sub, ti_mul, Int32.reduceToInt] at *; omega)))
                · refine ok_if (fun hc92 => ?_) (fun hc92 => ?_)
                  · refine ok_gR (v := 227) hT rfl (hR 218 17 rfl) ?_
                    refine ok_s16 hT rfl (by decide) (by first | omega | decide | (simp only [Int32.le_iff_toInt_le, Int32.lt_iff_toInt_lt, ti_add, ti_sub, ti_mul, Int32.reduceToInt] at *; omega)) (by first | omega | decide | (simp only [Int32.le_iff_toInt_le, Int32.lt_iff_toInt_lt, ti_add, ti_sub, ti_mul, Int32.reduceToInt] at *; omega)) (fun σ94 eσ94 hOσ94 hT => ?_)
                    have hB : ZB σ94.1 := by first | exact HQ | exact ZB_s eσ94 hB
                    exact ih156_35 (x6_35 + 1, σ94) (show Tr [227, 228, 229] σ0 σ94 ∧ (0 ≤ (x6_35 + 1).toInt) ∧ (ZB σ94.1) from ⟨hT, (by first | omega | decide | (simp only [Int32.le_iff_toInt_le, Int32.lt_iff_toInt_lt, ti_add, ti_sub, ti_mul, Int32.reduceToInt] at *; omega)), hB⟩) (show ((1024 : Int32).toInt - (x6_35 + 1).toInt).toNat < ((1024 : Int32).toInt - x6_35.toInt).toNat from (by first | omega | decide | (simp only [Int32.le_iff_toInt_le, Int32.lt_iff_toInt_lt, ti_add, ti_sub, ti_mul, Int32.reduceToInt] at *; omega)))
                  · refine ok_aIn rfl (by first | omega | decide | (simp only [Int32.le_iff_toInt_le, Int32.lt_iff_toInt_lt, ti_add, ti_sub, ti_mul, Int32.reduceToInt] at *; omega)) (by first | omega | decide | (simp only [Int32.le_iff_toInt_le, Int32.lt_iff_toInt_lt, ti_add, ti_sub, ti_mul, Int32.reduceToInt] at *; omega)) (fun v95 ev95 => ?_)
                    have zv95 : v95 = 0 ∨ v95 = 1 := by rw [ev95]; exact hB 226 rfl _
                    refine ok_if (fun hc96 => ?_) (fun hc96 => ?_)
                    · refine ok_gR (v := 227) hT rfl (hR 218 17 rfl) ?_
                      refine ok_s16 hT rfl (by decide) (by first | omega | decide | (simp only [Int32.le_iff_toInt_le, Int32.lt_iff_toInt_lt, ti_add, ti_sub, ti_mul, Int32.reduceToInt] at *; omega)) (by first | omega | decide | (simp only [Int32.le_iff_toInt_le, Int32.lt_iff_toInt_lt, ti_add, ti_sub, ti_mul, Int32.reduceToInt] at *; omega)) (fun σ98 eσ98 hOσ98 hT => ?_)
                      have hB : ZB σ98.1 := by first | exact HQ | exact ZB_s eσ98 hB
                      exact ih156_35 (x6_35 + 1, σ98) (show Tr [227, 228, 229] σ0 σ98 ∧ (0 ≤ (x6_35 + 1).toInt) ∧ (ZB σ98.1) from ⟨hT, (by first | omega | decide | (simp only [Int32.le_iff_toInt_le, Int32.lt_iff_toInt_lt, ti_add, ti_sub, ti_mul, Int32.reduceToInt] at *; omega)), hB⟩) (show ((1024 : Int32).toInt - (x6_35 + 1).toInt).toNat < ((1024 : Int32).toInt - x6_35.toInt).toNat from (by first | omega | decide | (simp only [Int32.le_iff_toInt_le, Int32.lt_iff_toInt_lt, ti_add, ti_sub, ti_mul, Int32.reduceToInt] at *; omega)))
                    · refine ok_gC rfl ?_
                      refine ok_zbT (Q := fun V σ => V = 0 ∨ V = 1) hT (s_X12_isTouching_226 hN (hR.tr hT) (hB) (by first | exact ha | (rw [hT.2 218 (by decide)]; exact ha)) (by first | omega | decide | (simp only [Int32.le_iff_toInt_le, Int32.lt_iff_toInt_lt, ti_add, ti_sub, ti_mul, Int32.reduceToInt] at *; omega)) (by first | omega | decide | (simp only [Int32.le_iff_toInt_le, Int32.lt_iff_toInt_lt, ti_add, ti_sub, ti_mul, Int32.reduceToInt] at *; omega))) (fun _ h9 => absurd h9 List.not_mem_nil) (fun v99 σ100 hOσ100 hT hqv99 => ?_)
                      have hqv99 : v99 = 0 ∨ v99 = 1 := hqv99
                      have hB : ZB σ100.1 := ZB.tr hOσ100 (by decide) hB
                      refine ok_if (fun hc101 => ?_) (fun hc101 => ?_)
                      · refine ok_gR (v := 227) hT rfl (hR 218 17 rfl) ?_
                        refine ok_s16 hT rfl (by decide) (by first | omega | decide | (simp only [Int32.le_iff_toInt_le, Int32.lt_iff_toInt_lt, ti_add, ti_sub, ti_mul, Int32.reduceToInt] at *; omega)) (by first | omega | decide | (simp only [Int32.le_iff_toInt_le, Int32.lt_iff_toInt_lt, ti_add, ti_sub, ti_mul, Int32.reduceToInt] at *; omega)) (fun σ103 eσ103 hOσ103 hT => ?_)
                        have hB : ZB σ103.1 := by first | exact HQ | exact ZB_s eσ103 hB
                        exact ih156_35 (x6_35 + 1, σ103) (show Tr [227, 228, 229] σ0 σ103 ∧ (0 ≤ (x6_35 + 1).toInt) ∧ (ZB σ103.1) from ⟨hT, (by first | omega | decide | (simp only [Int32.le_iff_toInt_le, Int32.lt_iff_toInt_lt, ti_add, ti_sub, ti_mul, Int32.reduceToInt] at *; omega)), hB⟩) (show ((1024 : Int32).toInt - (x6_35 + 1).toInt).toNat < ((1024 : Int32).toInt - x6_35.toInt).toNat from (by first | omega | decide | (simp only [Int32.le_iff_toInt_le, Int32.lt_iff_toInt_lt, ti_add, ti_sub, ti_mul, Int32.reduceToInt] at *; omega)))
                      · refine ok_gR (v := 227) hT rfl (hR 218 17 rfl) ?_
                        refine ok_s16 hT rfl (by decide) (by first | omega | decide | (simp only [Int32.le_iff_toInt_le, Int32.lt_iff_toInt_lt, ti_add, ti_sub, ti_mul, Int32.reduceToInt] at *; omega)) (by first | omega | decide | (simp only [Int32.le_iff_toInt_le, Int32.lt_iff_toInt_lt, ti_add, ti_sub, ti_mul, Int32.reduceToInt] at *; omega)) (fun σ105 eσ105 hOσ105 hT => ?_)
                        have hB : ZB σ105.1 := by first | exact HQ | exact ZB_s eσ105 hB
                        exact ih156_35 (x6_35 + 1, σ105) (show Tr [227, 228, 229] σ0 σ105 ∧ (0 ≤ (x6_35 + 1).toInt) ∧ (ZB σ105.1) from ⟨hT, (by first | omega | decide | (simp only [Int32.le_iff_toInt_le, Int32.lt_iff_toInt_lt, ti_add, ti_sub, ti_mul, Int32.reduceToInt] at *; omega)), hB⟩) (show ((1024 : Int32).toInt - (x6_35 + 1).toInt).toNat < ((1024 : Int32).toInt - x6_35.toInt).toNat from (by first | omega | decide | (simp only [Int32.le_iff_toInt_le, Int32.lt_iff_toInt_lt, ti_add, ti_sub, ti_mul, Int32.reduceToInt] at *; omega)))
        · rw [J_X12_gives_178.eq_1]
          refine ok_if (fun hc106 => ?_) (fun hc106 => ?_)
          · refine ok_if (fun hc107 => ?_) (fun hc107 => ?_)
            · refine ok_gR (v := 227) hT rfl (hR 218 17 rfl) ?_
              refine ok_s16 hT rfl (by decide) (by first | omega | decide | (simp only [Int32.le_iff_toInt_le, Int32.lt_iff_toInt_lt, ti_add, ti_sub, ti_mul, Int32.reduceToInt] at *; omega)) (by first | omega | decide | (simp only [Int32.le_iff_toInt_le, Int32.lt_iff_toInt_lt, ti_add, ti_sub, ti_mul, Int32.reduceToInt] at *; omega)) (fun σ109 eσ109 hOσ109 hT => ?_)
              have hB : ZB σ109.1 := by first | exact HQ | exact ZB_s eσ109 hB
              exact ih156_35 (x6_35 + 1, σ109) (show Tr [227, 228, 229] σ0 σ109 ∧ (0 ≤ (x6_35 + 1).toInt) ∧ (ZB σ109.1) from ⟨hT, (by first | omega | decide | (simp only [Int32.le_iff_toInt_le, Int32.lt_iff_toInt_lt, ti_add, ti_sub, ti_mul, Int32.reduceToInt] at *; omega)), hB⟩) (show ((1024 : Int32).toInt - (x6_35 + 1).toInt).toNat < ((1024 : Int32).toInt - x6_35.toInt).toNat from (by first | omega | decide | (simp only [Int32.le_iff_toInt_le, Int32.lt_iff_toInt_lt, ti_add, ti_sub, ti_mul, Int32.reduceToInt] at *; omega)))
            · refine ok_aIn rfl (by first | omega | decide | (simp only [Int32.le_iff_toInt_le, Int32.lt_iff_toInt_lt, ti_add, ti_sub, ti_mul, Int32.reduceToInt] at *; omega)) (by first | omega | decide | (simp only [Int32.le_iff_toInt_le, Int32.lt_iff_toInt_lt, ti_add, ti_sub, ti_mul, Int32.reduceToInt] at *; omega)) (fun v110 ev110 => ?_)
              have zv110 : v110 = 0 ∨ v110 = 1 := by rw [ev110]; exact hB 226 rfl _
              refine ok_if (fun hc111 => ?_) (fun hc111 => ?_)
              · refine ok_aIn rfl (by first | omega | decide | (simp only [Int32.le_iff_toInt_le, Int32.lt_iff_toInt_lt, ti_add, ti_sub, ti_mul, Int32.reduceToInt] at *; omega)) (by first | omega | decide | (simp only [Int32.le_iff_toInt_le, Int32.lt_iff_toInt_lt, ti_add, ti_sub, ti_mul, Int32.reduceToInt] at *; omega)) (fun v112 ev112 => ?_)
                have zv112 : v112 = 0 ∨ v112 = 1 := by rw [ev112]; exact hB 226 rfl _
                refine ok_if (fun hc113 => ?_) (fun hc113 => ?_)
                · refine ok_gR (v := 227) hT rfl (hR 218 17 rfl) ?_
                  refine ok_s16 hT rfl (by decide) (by first | omega | decide | (simp only [Int32.le_iff_toInt_le, Int32.lt_iff_toInt_lt, ti_add, ti_sub, ti_mul, Int32.reduceToInt] at *; omega)) (by first | omega | decide | (simp only [Int32.le_iff_toInt_le, Int32.lt_iff_toInt_lt, ti_add, ti_sub, ti_mul, Int32.reduceToInt] at *; omega)) (fun σ115 eσ115 hOσ115 hT => ?_)
                  have hB : ZB σ115.1 := by first | exact HQ | exact ZB_s eσ115 hB
                  exact ih156_35 (x6_35 + 1, σ115) (show Tr [227, 228, 229] σ0 σ115 ∧ (0 ≤ (x6_35 + 1).toInt) ∧ (ZB σ115.1) from ⟨hT, (by first | omega | decide | (simp only [Int32.le_iff_toInt_le, Int32.lt_iff_toInt_lt, ti_add, ti_sub, ti_mul, Int32.reduceToInt] at *; omega)), hB⟩) (show ((1024 : Int32).toInt - (x6_35 + 1).toInt).toNat < ((1024 : Int32).toInt - x6_35.toInt).toNat from (by first | omega | decide | (simp only [Int32.le_iff_toInt_le, Int32.lt_iff_toInt_lt, ti_add, ti_sub, ti_mul, Int32.reduceToInt] at *; omega)))
                · refine ok_gR (v := 227) hT rfl (hR 218 17 rfl) ?_
                  refine ok_s16 hT rfl (by decide) (by first | omega | decide | (simp only [Int32.le_iff_toInt_le, Int32.lt_iff_toInt_lt, ti_add, ti_sub, ti_mul, Int32.reduceToInt] at *; omega)) (by first | omega | decide | (simp only [Int32.le_iff_toInt_le, Int32.lt_iff_toInt_lt, ti_add, ti_sub, ti_mul, Int32.reduceToInt] at *; omega)) (fun σ117 eσ117 hOσ117 hT => ?_)
                  have hB : ZB σ117.1 := by first | exact HQ | exact ZB_s eσ117 hB
                  exact ih156_35 (x6_35 + 1, σ117) (show Tr [227, 228, 229] σ0 σ117 ∧ (0 ≤ (x6_35 + 1).toInt) ∧ (ZB σ117.1) from ⟨hT, (by first | omega | decide | (simp only [Int32.le_iff_toInt_le, Int32.lt_iff_toInt_lt, ti_add, ti_sub, ti_mul, Int32.reduceToInt] at *; omega)), hB⟩) (show ((1024 : Int32).toInt - (x6_35 + 1).toInt).toNat < ((1024 : Int32).toInt - x6_35.toInt).toNat from (by first | omega | decide | (simp only [Int32.le_iff_toInt_le, Int32.lt_iff_toInt_lt, ti_add, ti_sub, ti_mul, Int32.reduceToInt] at *; omega)))
              · refine ok_gR (v := 227) hT rfl (hR 218 17 rfl) ?_
                refine ok_s16 hT rfl (by decide) (by first | omega | decide | (simp only [Int32.le_iff_toInt_le, Int32.lt_iff_toInt_lt, ti_add, ti_sub, ti_mul, Int32.reduceToInt] at *; omega)) (by first | omega | decide | (simp only [Int32.le_iff_toInt_le, Int32.lt_iff_toInt_lt, ti_add, ti_sub, ti_mul, Int32.reduceToInt] at *; omega)) (fun σ119 eσ119 hOσ119 hT => ?_)
                have hB : ZB σ119.1 := by first | exact HQ | exact ZB_s eσ119 hB
                exact ih156_35 (x6_35 + 1, σ119) (show Tr [227, 228, 229] σ0 σ119 ∧ (0 ≤ (x6_35 + 1).toInt) ∧ (ZB σ119.1) from ⟨hT, (by first | omega | decide | (simp only [Int32.le_iff_toInt_le, Int32.lt_iff_toInt_lt, ti_add, ti_sub, ti_mul, Int32.reduceToInt] at *; omega)), hB⟩) (show ((1024 : Int32).toInt - (x6_35 + 1).toInt).toNat < ((1024 : Int32).toInt - x6_35.toInt).toNat from (by first | omega | decide | (simp only [Int32.le_iff_toInt_le, Int32.lt_iff_toInt_lt, ti_add, ti_sub, ti_mul, Int32.reduceToInt] at *; omega)))
          · refine ok_if (fun hc120 => ?_) (fun hc120 => ?_)
            · refine ok_if (fun hc121 => ?_) (fun hc121 => ?_)
              · refine ok_gR (v := 227) hT rfl (hR 218 17 rfl) ?_
                refine ok_s16 hT rfl (by decide) (by first | omega | decide | (simp only [Int32.le_iff_toInt_le, Int32.lt_iff_toInt_lt, ti_add, ti_sub, ti_mul, Int32.reduceToInt] at *; omega)) (by first | omega | decide | (simp only [Int32.le_iff_toInt_le, Int32.lt_iff_toInt_lt, ti_add, ti_sub, ti_mul, Int32.reduceToInt] at *; omega)) (fun σ123 eσ123 hOσ123 hT => ?_)
                have hB : ZB σ123.1 := by first | exact HQ | exact ZB_s eσ123 hB
                exact ih156_35 (x6_35 + 1, σ123) (show Tr [227, 228, 229] σ0 σ123 ∧ (0 ≤ (x6_35 + 1).toInt) ∧ (ZB σ123.1) from ⟨hT, (by first | omega | decide | (simp only [Int32.le_iff_toInt_le, Int32.lt_iff_toInt_lt, ti_add, ti_sub, ti_mul, Int32.reduceToInt] at *; omega)), hB⟩) (show ((1024 : Int32).toInt - (x6_35 + 1).toInt).toNat < ((1024 : Int32).toInt - x6_35.toInt).toNat from (by first | omega | decide | (simp only [Int32.le_iff_toInt_le, Int32.lt_iff_toInt_lt, ti_add, ti_sub, ti_mul, Int32.reduceToInt] at *; omega)))
              · refine ok_aIn rfl (by first | omega | decide | (simp only [Int32.le_iff_toInt_le, Int32.lt_iff_toInt_lt, ti_add, ti_sub, ti_mul, Int32.reduceToInt] at *; omega)) (by first | omega | decide | (simp only [Int32.le_iff_toInt_le, Int32.lt_iff_toInt_lt, ti_add, ti_sub, ti_mul, Int32.reduceToInt] at *; omega)) (fun v124 ev124 => ?_)
                have zv124 : v124 = 0 ∨ v124 = 1 := by rw [ev124]; exact hB 226 rfl _
                refine ok_if (fun hc125 => ?_) (fun hc125 => ?_)
                · refine ok_gR (v := 227) hT rfl (hR 218 17 rfl) ?_
                  refine ok_s16 hT rfl (by decide) (by first | omega | decide | (simp only [Int32.le_iff_toInt_le, Int32.lt_iff_toInt_lt, ti_add, ti_sub, ti_mul, Int32.reduceToInt] at *; omega)) (by first | omega | decide | (simp only [Int32.le_iff_toInt_le, Int32.lt_iff_toInt_lt, ti_add, ti_sub, ti_mul, Int32.reduceToInt] at *; omega)) (fun σ127 eσ127 hOσ127 hT => ?_)
                  have hB : ZB σ127.1 := by first | exact HQ | exact ZB_s eσ127 hB
                  exact ih156_35 (x6_35 + 1, σ127) (show Tr [227, 228, 229] σ0 σ127 ∧ (0 ≤ (x6_35 + 1).toInt) ∧ (ZB σ127.1) from ⟨hT, (by first | omega | decide | (simp only [Int32.le_iff_toInt_le, Int32.lt_iff_toInt_lt, ti_add, ti_sub, ti_mul, Int32.reduceToInt] at *; omega)), hB⟩) (show ((1024 : Int32).toInt - (x6_35 + 1).toInt).toNat < ((1024 : Int32).toInt - x6_35.toInt).toNat from (by first | omega | decide | (simp only [Int32.le_iff_toInt_le, Int32.lt_iff_toInt_lt, ti_add, ti_sub, ti_mul, Int32.reduceToInt] at *; omega)))
                · refine ok_aIn rfl (by first | omega | decide | (simp only [Int32.le_iff_toInt_le, Int32.lt_iff_toInt_lt, ti_add, ti_sub, ti_mul, Int32.reduceToInt] at *; omega)) (by first | omega | decide | (simp only [Int32.le_iff_toInt_le, Int32.lt_iff_toInt_lt, ti_add, ti_sub, ti_mul, Int32.reduceToInt] at *; omega)) (fun v128 ev128 => ?_)
                  have zv128 : v128 = 0 ∨ v128 = 1 := by rw [ev128]; exact hB 226 rfl _
                  refine ok_if (fun hc129 => ?_) (fun hc129 => ?_)
                  · refine ok_gR (v := 227) hT rfl (hR 218 17 rfl) ?_
                    refine ok_s16 hT rfl (by decide) (by first | omega | decide | (simp only [Int32.le_iff_toInt_le, Int32.lt_iff_toInt_lt, ti_add, ti_sub, ti_mul, Int32.reduceToInt] at *; omega)) (by first | omega | decide | (simp only [Int32.le_iff_toInt_le, Int32.lt_iff_toInt_lt, ti_add, ti_sub, ti_mul, Int32.reduceToInt] at *; omega)) (fun σ131 eσ131 hOσ131 hT => ?_)
                    have hB : ZB σ131.1 := by first | exact HQ | exact ZB_s eσ131 hB
                    exact ih156_35 (x6_35 + 1, σ131) (show Tr [227, 228, 229] σ0 σ131 ∧ (0 ≤ (x6_35 + 1).toInt) ∧ (ZB σ131.1) from ⟨hT, (by first | omega | decide | (simp only [Int32.le_iff_toInt_le, Int32.lt_iff_toInt_lt, ti_add, ti_sub, ti_mul, Int32.reduceToInt] at *; omega)), hB⟩) (show ((1024 : Int32).toInt - (x6_35 + 1).toInt).toNat < ((1024 : Int32).toInt - x6_35.toInt).toNat from (by first | omega | decide | (simp only [Int32.le_iff_toInt_le, Int32.lt_iff_toInt_lt, ti_add, ti_sub, ti_mul, Int32.reduceToInt] at *; omega)))
                  · refine ok_gR (v := 227) hT rfl (hR 218 17 rfl) ?_
                    refine ok_s16 hT rfl (by decide) (by first | omega | decide | (simp only [Int32.le_iff_toInt_le, Int32.lt_iff_toInt_lt, ti_add, ti_sub, ti_mul, Int32.reduceToInt] at *; omega)) (by first | omega | decide | (simp only [Int32.le_iff_toInt_le, Int32.lt_iff_toInt_lt, ti_add, ti_sub, ti_mul, Int32.reduceToInt] at *; omega)) (fun σ133 eσ133 hOσ133 hT => ?_)
                    have hB : ZB σ133.1 := by first | exact HQ | exact ZB_s eσ133 hB
                    exact ih156_35 (x6_35 + 1, σ133) (show Tr [227, 228, 229] σ0 σ133 ∧ (0 ≤ (x6_35 + 1).toInt) ∧ (ZB σ133.1) from ⟨hT, (by first | omega | decide | (simp only [Int32.le_iff_toInt_le, Int32.lt_iff_toInt_lt, ti_add, ti_sub, ti_mul, Int32.reduceToInt] at *; omega)), hB⟩) (show ((1024 : Int32).toInt - (x6_35 + 1).toInt).toNat < ((1024 : Int32).toInt - x6_35.toInt).toNat from (by first | omega | decide | (simp only [Int32.le_iff_toInt_le, Int32.lt_iff_toInt_lt, ti_add, ti_sub, ti_mul, Int32.reduceToInt] at *; omega)))
            · refine ok_if (fun hc134 => ?_) (fun hc134 => ?_)
              · refine ok_if (fun hc135 => ?_) (fun hc135 => ?_)
                · refine ok_gR (v := 227) hT rfl (hR 218 17 rfl) ?_
                  refine ok_s16 hT rfl (by decide) (by first | omega | decide | (simp only [Int32.le_iff_toInt_le, Int32.lt_iff_toInt_lt, ti_add, ti_sub, ti_mul, Int32.reduceToInt] at *; omega)) (by first | omega | decide | (simp only [Int32.le_iff_toInt_le, Int32.lt_iff_toInt_lt, ti_add, ti_sub, ti_mul, Int32.reduceToInt] at *; omega)) (fun σ137 eσ137 hOσ137 hT => ?_)
                  have hB : ZB σ137.1 := by first | exact HQ | exact ZB_s eσ137 hB
                  exact ih156_35 (x6_35 + 1, σ137) (show Tr [227, 228, 229] σ0 σ137 ∧ (0 ≤ (x6_35 + 1).toInt) ∧ (ZB σ137.1) from ⟨hT, (by first | omega | decide | (simp only [Int32.le_iff_toInt_le, Int32.lt_iff_toInt_lt, ti_add, ti_sub, ti_mul, Int32.reduceToInt] at *; omega)), hB⟩) (show ((1024 : Int32).toInt - (x6_35 + 1).toInt).toNat < ((1024 : Int32).toInt - x6_35.toInt).toNat from (by first | omega | decide | (simp only [Int32.le_iff_toInt_le, Int32.lt_iff_toInt_lt, ti_add, ti_sub, ti_mul, Int32.reduceToInt] at *; omega)))
                · refine ok_aIn rfl (by first | omega | decide | (simp only [Int32.le_iff_toInt_le, Int32.lt_iff_toInt_lt, ti_add, ti_sub, ti_mul, Int32.reduceToInt] at *; omega)) (by first | omega | decide | (simp only [Int32.le_iff_toInt_le, Int32.lt_iff_toInt_lt, ti_add, ti_sub, ti_mul, Int32.reduceToInt] at *; omega)) (fun v138 ev138 => ?_)
                  have zv138 : v138 = 0 ∨ v138 = 1 := by rw [ev138]; exact hB 226 rfl _
                  refine ok_if (fun hc139 => ?_) (fun hc139 => ?_)
                  · refine ok_gR (v := 227) hT rfl (hR 218 17 rfl) ?_
                    refine ok_s16 hT rfl (by decide) (by first | omega | decide | (simp only [Int32.le_iff_toInt_le, Int32.lt_iff_toInt_lt, ti_add, ti_sub, ti_mul, Int32.reduceToInt] at *; omega)) (by first | omega | decide | (simp only [Int32.le_iff_toInt_le, Int32.lt_iff_toInt_lt, ti_add, ti_sub, ti_mul, Int32.reduceToInt] at *; omega)) (fun σ141 eσ141 hOσ141 hT => ?_)
                    have hB : ZB σ141.1 := by first | exact HQ | exact ZB_s eσ141 hB
                    exact ih156_35 (x6_35 + 1, σ141) (show Tr [227, 228, 229] σ0 σ141 ∧ (0 ≤ (x6_35 + 1).toInt) ∧ (ZB σ141.1) from ⟨hT, (by first | omega | decide | (simp only [Int32.le_iff_toInt_le, Int32.lt_iff_toInt_lt, ti_add, ti_sub, ti_mul, Int32.reduceToInt] at *; omega)), hB⟩) (show ((1024 : Int32).toInt - (x6_35 + 1).toInt).toNat < ((1024 : Int32).toInt - x6_35.toInt).toNat from (by first | omega | decide | (simp only [Int32.le_iff_toInt_le, Int32.lt_iff_toInt_lt, ti_add, ti_sub, ti_mul, Int32.reduceToInt] at *; omega)))
                  · refine ok_aIn rfl (by first | omega | decide | (simp only [Int32.le_iff_toInt_le, Int32.lt_iff_toInt_lt, ti_add, ti_sub, ti_mul, Int32.reduceToInt] at *; omega)) (by first | omega | decide | (simp only [Int32.le_iff_toInt_le, Int32.lt_iff_toInt_lt, ti_add, ti_sub, ti_mul, Int32.reduceToInt] at *; omega)) (fun v142 ev142 => ?_)
                    have zv142 : v142 = 0 ∨ v142 = 1 := by rw [ev142]; exact hB 226 rfl _
                    refine ok_if (fun hc143 => ?_) (fun hc143 => ?_)
                    · refine ok_gR (v := 227) hT rfl (hR 218 17 rfl) ?_
                      refine ok_s16 hT rfl (by decide) (by first | omega | decide | (simp only [Int32.le_iff_toInt_le, Int32.lt_iff_toInt_lt, ti_add, ti_sub, ti_mul, Int32.reduceToInt] at *; omega)) (by first | omega | decide | (simp only [Int32.le_iff_toInt_le, Int32.lt_iff_toInt_lt, ti_add, ti_sub, ti_mul, Int32.reduceToInt] at *; omega)) (fun σ145 eσ145 hOσ145 hT => ?_)
                      have hB : ZB σ145.1 := by first | exact HQ | exact ZB_s eσ145 hB
                      exact ih156_35 (x6_35 + 1, σ145) (show Tr [227, 228, 229] σ0 σ145 ∧ (0 ≤ (x6_35 + 1).toInt) ∧ (ZB σ145.1) from ⟨hT, (by first | omega | decide | (simp only [Int32.le_iff_toInt_le, Int32.lt_iff_toInt_lt, ti_add, ti_sub, ti_mul, Int32.reduceToInt] at *; omega)), hB⟩) (show ((1024 : Int32).toInt - (x6_35 + 1).toInt).toNat < ((1024 : Int32).toInt - x6_35.toInt).toNat from (by first | omega | decide | (simp only [Int32.le_iff_toInt_le, Int32.lt_iff_toInt_lt, ti_add, ti_sub, ti_mul, Int32.reduceToInt] at *; omega)))
                    · refine ok_gR (v := 227) hT rfl (hR 218 17 rfl) ?_
                      refine ok_s16 hT rfl (by decide) (by first | omega | decide | (simp only [Int32.le_iff_toInt_le, Int32.lt_iff_toInt_lt, ti_add, ti_sub, ti_mul, Int32.reduceToInt] at *; omega)) (by first | omega | decide | (simp only [Int32.le_iff_toInt_le, Int32.lt_iff_toInt_lt, ti_add, ti_sub, ti_mul, Int32.reduceToInt] at *; omega)) (fun σ147 eσ147 hOσ147 hT => ?_)
                      have hB : ZB σ147.1 := by first | exact HQ | exact ZB_s eσ147 hB
                      exact ih156_35 (x6_35 + 1, σ147) (show Tr [227, 228, 229] σ0 σ147 ∧ (0 ≤ (x6_35 + 1).toInt) ∧ (ZB σ147.1) from ⟨hT, (by first | omega | decide | (simp only [Int32.le_iff_toInt_le, Int32.lt_iff_toInt_lt, ti_add, ti_sub, ti_mul, Int32.reduceToInt] at *; omega)), hB⟩) (show ((1024 : Int32).toInt - (x6_35 + 1).toInt).toNat < ((1024 : Int32).toInt - x6_35.toInt).toNat from (by first | omega | decide | (simp only [Int32.le_iff_toInt_le, Int32.lt_iff_toInt_lt, ti_add, ti_sub, ti_mul, Int32.reduceToInt] at *; omega)))
              · refine ok_if (fun hc148 => ?_) (fun hc148 => ?_)
                · refine ok_if (fun hc149 => ?_) (fun hc149 => ?_)
                  · refine ok_gR (v := 227) hT rfl (hR 218 17 rfl) ?_
                    refine ok_s16 hT rfl (by decide) (by first | omega | decide | (simp only [Int32.le_iff_toInt_le, Int32.lt_iff_toInt_lt, ti_add, ti_sub, ti_mul, Int32.reduceToInt] at *; omega)) (by first | omega | decide | (simp only [Int32.le_iff_toInt_le, Int32.lt_iff_toInt_lt, ti_add, ti_sub, ti_mul, Int32.reduceToInt] at *; omega)) (fun σ151 eσ151 hOσ151 hT => ?_)
                    have hB : ZB σ151.1 := by first | exact HQ | exact ZB_s eσ151 hB
                    exact ih156_35 (x6_35 + 1, σ151) (show Tr [227, 228, 229] σ0 σ151 ∧ (0 ≤ (x6_35 + 1).toInt) ∧ (ZB σ151.1) from ⟨hT, (by first | omega | decide | (simp only [Int32.le_iff_toInt_le, Int32.lt_iff_toInt_lt, ti_add, ti_sub, ti_mul, Int32.reduceToInt] at *; omega)), hB⟩) (show ((1024 : Int32).toInt - (x6_35 + 1).toInt).toNat < ((1024 : Int32).toInt - x6_35.toInt).toNat from (by first | omega | decide | (simp only [Int32.le_iff_toInt_le, Int32.lt_iff_toInt_lt, ti_add, ti_sub, ti_mul, Int32.reduceToInt] at *; omega)))
                  · refine ok_gC rfl ?_
                    refine ok_zbT (Q := fun V σ => V = 0 ∨ V = 1) hT (s_X12_isOver_226_226 hN (hR.tr hT) (hB) (by first | exact ha | (rw [hT.2 218 (by decide)]; exact ha)) (by first | omega | decide | (simp only [Int32.le_iff_toInt_le, Int32.lt_iff_toInt_lt, ti_add, ti_sub, ti_mul, Int32.reduceToInt] at *; omega)) (by first | omega | decide | (simp only [Int32.le_iff_toInt_le, Int32.lt_iff_toInt_lt, ti_add, ti_sub, ti_mul, Int32.reduceToInt] at *; omega)) (by first | omega | decide | (simp only [Int32.le_iff_toInt_le, Int32.lt_iff_toInt_lt, ti_add, ti_sub, ti_mul, Int32.reduceToInt] at *; omega))) (fun _ h9 => absurd h9 List.not_mem_nil) (fun v152 σ153 hOσ153 hT hqv152 => ?_)
                    have hqv152 : v152 = 0 ∨ v152 = 1 := hqv152
                    have hB : ZB σ153.1 := ZB.tr hOσ153 (by decide) hB
                    refine ok_if (fun hc154 => ?_) (fun hc154 => ?_)
                    · refine ok_gR (v := 227) hT rfl (hR 218 17 rfl) ?_
                      refine ok_s16 hT rfl (by decide) (by first | omega | decide | (simp only [Int32.le_iff_toInt_le, Int32.lt_iff_toInt_lt, ti_add, ti_sub, ti_mul, Int32.reduceToInt] at *; omega)) (by first | omega | decide | (simp only [Int32.le_iff_toInt_le, Int32.lt_iff_toInt_lt, ti_add, ti_sub, ti_mul, Int32.reduceToInt] at *; omega)) (fun σ156 eσ156 hOσ156 hT => ?_)
                      have hB : ZB σ156.1 := by first | exact HQ | exact ZB_s eσ156 hB
                      exact ih156_35 (x6_35 + 1, σ156) (show Tr [227, 228, 229] σ0 σ156 ∧ (0 ≤ (x6_35 + 1).toInt) ∧ (ZB σ156.1) from ⟨hT, (by first | omega | decide | (simp only [Int32.le_iff_toInt_le, Int32.lt_iff_toInt_lt, ti_add, ti_sub, ti_mul, Int32.reduceToInt] at *; omega)), hB⟩) (show ((1024 : Int32).toInt - (x6_35 + 1).toInt).toNat < ((1024 : Int32).toInt - x6_35.toInt).toNat from (by first | omega | decide | (simp only [Int32.le_iff_toInt_le, Int32.lt_iff_toInt_lt, ti_add, ti_sub, ti_mul, Int32.reduceToInt] at *; omega)))
                    · refine ok_gR (v := 227) hT rfl (hR 218 17 rfl) ?_
                      refine ok_s16 hT rfl (by decide) (by first | omega | decide | (simp only [Int32.le_iff_toInt_le, Int32.lt_iff_toInt_lt, ti_add, ti_sub, ti_mul, Int32.reduceToInt] at *; omega)) (by first | omega | decide | (simp only [Int32.le_iff_toInt_le, Int32.lt_iff_toInt_lt, ti_add, ti_sub, ti_mul, Int32.reduceToInt] at *; omega)) (fun σ158 eσ158 hOσ158 hT => ?_)
                      have hB : ZB σ158.1 := by first | exact HQ | exact ZB_s eσ158 hB
                      exact ih156_35 (x6_35 + 1, σ158) (show Tr [227, 228, 229] σ0 σ158 ∧ (0 ≤ (x6_35 + 1).toInt) ∧ (ZB σ158.1) from ⟨hT, (by first | omega | decide | (simp only [Int32.le_iff_toInt_le, Int32.lt_iff_toInt_lt, ti_add, ti_sub, ti_mul, Int32.reduceToInt] at *; omega)), hB⟩) (show ((1024 : Int32).toInt - (x6_35 + 1).toInt).toNat < ((1024 : Int32).toInt - x6_35.toInt).toNat from (by first | omega | decide | (simp only [Int32.le_iff_toInt_le, Int32.lt_iff_toInt_lt, ti_add, ti_sub, ti_mul, Int32.reduceToInt] at *; omega)))
                · refine ok_if (fun hc159 => ?_) (fun hc159 => ?_)
                  · refine ok_gR (v := 227) hT rfl (hR 218 17 rfl) ?_
                    refine ok_s16 hT rfl (by decide) (by first | omega | decide | (simp only [Int32.le_iff_toInt_le, Int32.lt_iff_toInt_lt, ti_add, ti_sub, ti_mul, Int32.reduceToInt] at *; omega)) (by first | omega | decide | (simp only [Int32.le_iff_toInt_le, Int32.lt_iff_toInt_lt, ti_add, ti_sub, ti_mul, Int32.reduceToInt] at *; omega)) (fun σ161 eσ161 hOσ161 hT => ?_)
                    have hB : ZB σ161.1 := by first | exact HQ | exact ZB_s eσ161 hB
                    exact ih156_35 (x6_35 + 1, σ161) (show Tr [227, 228, 229] σ0 σ161 ∧ (0 ≤ (x6_35 + 1).toInt) ∧ (ZB σ161.1) from ⟨hT, (by first | omega | decide | (simp only [Int32.le_iff_toInt_le, Int32.lt_iff_toInt_lt, ti_add, ti_sub, ti_mul, Int32.reduceToInt] at *; omega)), hB⟩) (show ((1024 : Int32).toInt - (x6_35 + 1).toInt).toNat < ((1024 : Int32).toInt - x6_35.toInt).toNat from (by first | omega | decide | (simp only [Int32.le_iff_toInt_le, Int32.lt_iff_toInt_lt, ti_add, ti_sub, ti_mul, Int32.reduceToInt] at *; omega)))
                  · refine ok_aIn rfl (by first | omega | decide | (simp only [Int32.le_iff_toInt_le, Int32.lt_iff_toInt_lt, ti_add, ti_sub, ti_mul, Int32.reduceToInt] at *; omega)) (by first | omega | decide | (simp only [Int32.le_iff_toInt_le, Int32.lt_iff_toInt_lt, ti_add, ti_sub, ti_mul, Int32.reduceToInt] at *; omega)) (fun v162 ev162 => ?_)
                    have zv162 : v162 = 0 ∨ v162 = 1 := by rw [ev162]; exact hB 226 rfl _
                    refine ok_if (fun hc163 => ?_) (fun hc163 => ?_)
                    · refine ok_gR (v := 227) hT rfl (hR 218 17 rfl) ?_
                      refine ok_s16 hT rfl (by decide) (by first | omega | decide | (simp only [Int32.le_iff_toInt_le, Int32.lt_iff_toInt_lt, ti_add, ti_sub, ti_mul, Int32.reduceToInt] at *; omega)) (by first | omega | decide | (simp only [Int32.le_iff_toInt_le, Int32.lt_iff_toInt_lt, ti_add, ti_sub, ti_mul, Int32.reduceToInt] at *; omega)) (fun σ165 eσ165 hOσ165 hT => ?_)
                      have hB : ZB σ165.1 := by first | exact HQ | exact ZB_s eσ165 hB
                      exact ih156_35 (x6_35 + 1, σ165) (show Tr [227, 228, 229] σ0 σ165 ∧ (0 ≤ (x6_35 + 1).toInt) ∧ (ZB σ165.1) from ⟨hT, (by first | omega | decide | (simp only [Int32.le_iff_toInt_le, Int32.lt_iff_toInt_lt, ti_add, ti_sub, ti_mul, Int32.reduceToInt] at *; omega)), hB⟩) (show ((1024 : Int32).toInt - (x6_35 + 1).toInt).toNat < ((1024 : Int32).toInt - x6_35.toInt).toNat from (by first | omega | decide | (simp only [Int32.le_iff_toInt_le, Int32.lt_iff_toInt_lt, ti_add, ti_sub, ti_mul, Int32.reduceToInt] at *; omega)))
                    · refine ok_gC rfl ?_
                      refine ok_zbT (Q := fun V σ => V = 0 ∨ V = 1) hT (s_X12_isTouching_226 hN (hR.tr hT) (hB) (by first | exact ha | (rw [hT.2 218 (by decide)]; exact ha)) (by first | omega | decide | (simp only [Int32.le_iff_toInt_le, Int32.lt_iff_toInt_lt, ti_add, ti_sub, ti_mul, Int32.reduceToInt] at *; omega)) (by first | omega | decide | (simp only [Int32.le_iff_toInt_le, Int32.lt_iff_toInt_lt, ti_add, ti_sub, ti_mul, Int32.reduceToInt] at *; omega))) (fun _ h9 => absurd h9 List.not_mem_nil) (fun v166 σ167 hOσ167 hT hqv166 => ?_)
                      have hqv166 : v166 = 0 ∨ v166 = 1 := hqv166
                      have hB : ZB σ167.1 := ZB.tr hOσ167 (by decide) hB
                      refine ok_if (fun hc168 => ?_) (fun hc168 => ?_)
                      · refine ok_gR (v := 227) hT rfl (hR 218 17 rfl) ?_
                        refine ok_s16 hT rfl (by decide) (by first | omega | decide | (simp only [Int32.le_iff_toInt_le, Int32.lt_iff_toInt_lt, ti_add, ti_sub, ti_mul, Int32.reduceToInt] at *; omega)) (by first | omega | decide | (simp only [Int32.le_iff_toInt_le, Int32.lt_iff_toInt_lt, ti_add, ti_sub, ti_mul, Int32.reduceToInt] at *; omega)) (fun σ170 eσ170 hOσ170 hT => ?_)
                        have hB : ZB σ170.1 := by first | exact HQ | exact ZB_s eσ170 hB
                        exact ih156_35 (x6_35 + 1, σ170) (show Tr [227, 228, 229] σ0 σ170 ∧ (0 ≤ (x6_35 + 1).toInt) ∧ (ZB σ170.1) from ⟨hT, (by first | omega | decide | (simp only [Int32.le_iff_toInt_le, Int32.lt_iff_toInt_lt, ti_add, ti_sub, ti_mul, Int32.reduceToInt] at *; omega)), hB⟩) (show ((1024 : Int32).toInt - (x6_35 + 1).toInt).toNat < ((1024 : Int32).toInt - x6_35.toInt).toNat from (by first | omega | decide | (simp only [Int32.le_iff_toInt_le, Int32.lt_iff_toInt_lt, ti_add, ti_sub, ti_mul, Int32.reduceToInt] at *; omega)))
                      · refine ok_gR (v := 227) hT rfl (hR 218 17 rfl) ?_
                        refine ok_s16 hT rfl (by decide) (by first | omega | decide | (simp only [Int32.le_iff_toInt_le, Int32.lt_iff_toInt_lt, ti_add, ti_sub, ti_mul, Int32.reduceToInt] at *; omega)) (by first | omega | decide | (simp only [Int32.le_iff_toInt_le, Int32.lt_iff_toInt_lt, ti_add, ti_sub, ti_mul, Int32.reduceToInt] at *; omega)) (fun σ172 eσ172 hOσ172 hT => ?_)
                        have hB : ZB σ172.1 := by first | exact HQ | exact ZB_s eσ172 hB
                        exact ih156_35 (x6_35 + 1, σ172) (show Tr [227, 228, 229] σ0 σ172 ∧ (0 ≤ (x6_35 + 1).toInt) ∧ (ZB σ172.1) from ⟨hT, (by first | omega | decide | (simp only [Int32.le_iff_toInt_le, Int32.lt_iff_toInt_lt, ti_add, ti_sub, ti_mul, Int32.reduceToInt] at *; omega)), hB⟩) (show ((1024 : Int32).toInt - (x6_35 + 1).toInt).toNat < ((1024 : Int32).toInt - x6_35.toInt).toNat from (by first | omega | decide | (simp only [Int32.le_iff_toInt_le, Int32.lt_iff_toInt_lt, ti_add, ti_sub, ti_mul, Int32.reduceToInt] at *; omega)))

set_option maxHeartbeats 4000000 in
set_option maxRecDepth 100000 in
theorem s_X12_turns_220 {N : Nat} (hN : 1048576 ≤ N) {x1 : Int32} {x3 : Int32} {σ0 : zS}  (hR : RF σ0.2.2) (hB : ZB σ0.1) (ha : 0 ≤ (σ0.1 218 20).toInt ∧ (σ0.1 218 20).toInt ≤ 1024) (h3 : 0 ≤ x3.toInt ∧ x3.toInt ≤ 9216) : Ok (f_X12_turns N 218 x1 220 x3 σ0) (fun r => Tr [227, 228] σ0 r.2 ∧ (ZB r.2.1)) := by
  have hT : Tr [227, 228] σ0 σ0 := Tr.rf
  rw [f_X12_turns.eq_1]
  refine ok_if (fun hc1 => ?_) (fun hc1 => ?_)
  · refine ok_lp (fun t : Int32 × zS => Tr [227, 228] σ0 (t.2) ∧ (0 ≤ (t.1).toInt) ∧ (ZB (t.2).1)) (fun t : Int32 × zS => ((1024 : Int32).toInt - (t.1).toInt).toNat) (fun again2 t hI ih8_2 => ?_) N _ (show Tr [227, 228] σ0 σ0 ∧ (0 ≤ (0 : Int32).toInt) ∧ (ZB σ0.1) from ⟨hT, (by first | omega | decide | (simp only [Int32.le_iff_toInt_le, Int32.lt_iff_toInt_lt, ti_add, ti_sub, ti_mul, Int32.reduceToInt] at *; omega)), hB⟩) (show ((1024 : Int32).toInt - (0 : Int32).toInt).toNat < N from (by first | omega | decide | (simp only [Int32.le_iff_toInt_le, Int32.lt_iff_toInt_lt, ti_add, ti_sub, ti_mul, Int32.reduceToInt] at *; omega)))
    obtain ⟨x4_2, σ2⟩ := t
    have hI : Tr [227, 228] σ0 σ2 ∧ (0 ≤ x4_2.toInt) ∧ (ZB σ2.1) := hI
    obtain ⟨hT, hI2, hB⟩ := hI
    rw [F_X12_turns_8.eq_1]
    refine ok_if (fun hc3 => ?_) (fun hc3 => ?_)
    · refine ok_gR (v := 228) hT rfl (hR 218 18 rfl) ?_
      refine ok_gC rfl ?_
      refine ok_zbT (Q := fun V σ => ZB σ.1) hT (s_X12_turns__228 hN (hR.tr hT) (hB) (by first | exact ha | (rw [hT.2 218 (by decide)]; exact ha))) (by decide) (fun v5 σ6 hOσ6 hT hqv5 => ?_)
      have hqv5 : ZB σ6.1 := hqv5
      have hB : ZB σ6.1 := by first | exact hqv5 | exact ZB_s eσ6 hB
      exact ok_some ⟨hT, (show ZB σ6.1 from by exact hB)⟩
    · refine ok_gR (v := 228) hT rfl (hR 218 18 rfl) ?_
      refine ok_gI0 hT rfl (by decide) ?_
      refine ok_if (fun hc9 => ?_) (fun hc9 => ?_)
      · refine ok_s16 hT rfl (by decide) (by first | omega | decide | (simp only [Int32.le_iff_toInt_le, Int32.lt_iff_toInt_lt, ti_add, ti_sub, ti_mul, Int32.reduceToInt] at *; omega)) (by first | omega | decide | (simp only [Int32.le_iff_toInt_le, Int32.lt_iff_toInt_lt, ti_add, ti_sub, ti_mul, Int32.reduceToInt] at *; omega)) (fun σ10 eσ10 hOσ10 hT => ?_)
        have hB : ZB σ10.1 := by first | exact HQ | exact ZB_s eσ10 hB
        exact ih8_2 (x4_2 + 1, σ10) (show Tr [227, 228] σ0 σ10 ∧ (0 ≤ (x4_2 + 1).toInt) ∧ (ZB σ10.1) from ⟨hT, (by first | omega | decide | (simp only [Int32.le_iff_toInt_le, Int32.lt_iff_toInt_lt, ti_add, ti_sub, ti_mul, Int32.reduceToInt] at *; omega)), hB⟩) (show ((1024 : Int32).toInt - (x4_2 + 1).toInt).toNat < ((1024 : Int32).toInt - x4_2.toInt).toNat from (by first | omega | decide | (simp only [Int32.le_iff_toInt_le, Int32.lt_iff_toInt_lt, ti_add, ti_sub, ti_mul, Int32.reduceToInt] at *; omega)))
      · refine ok_gC rfl ?_
        refine ok_zbT (Q := fun V σ => V = 0 ∨ V = 1) hT (s_X12_isTouching_220 hN (hR.tr hT) (hB) (by first | exact ha | (rw [hT.2 218 (by decide)]; exact ha)) (by first | omega | decide | (simp only [Int32.le_iff_toInt_le, Int32.lt_iff_toInt_lt, ti_add, ti_sub, ti_mul, Int32.reduceToInt] at *; omega)) (by first | omega | decide | (simp only [Int32.le_iff_toInt_le, Int32.lt_iff_toInt_lt, ti_add, ti_sub, ti_mul, Int32.reduceToInt] at *; omega))) (fun _ h9 => absurd h9 List.not_mem_nil) (fun v11 σ12 hOσ12 hT hqv11 => ?_)
        have hqv11 : v11 = 0 ∨ v11 = 1 := hqv11
        have hB : ZB σ12.1 := ZB.tr hOσ12 (by decide) hB
        refine ok_if (fun hc13 => ?_) (fun hc13 => ?_)
        · refine ok_s16 hT rfl (by decide) (by first | omega | decide | (simp only [Int32.le_iff_toInt_le, Int32.lt_iff_toInt_lt, ti_add, ti_sub, ti_mul, Int32.reduceToInt] at *; omega)) (by first | omega | decide | (simp only [Int32.le_iff_toInt_le, Int32.lt_iff_toInt_lt, ti_add, ti_sub, ti_mul, Int32.reduceToInt] at *; omega)) (fun σ14 eσ14 hOσ14 hT => ?_)
          have hB : ZB σ14.1 := by first | exact HQ | exact ZB_s eσ14 hB
          exact ih8_2 (x4_2 + 1, σ14) (show Tr [227, 228] σ0 σ14 ∧ (0 ≤ (x4_2 + 1).toInt) ∧ (ZB σ14.1) from ⟨hT, (by first | omega | decide | (simp only [Int32.le_iff_toInt_le, Int32.lt_iff_toInt_lt, ti_add, ti_sub, ti_mul, Int32.reduceToInt] at *; omega)), hB⟩) (show ((1024 : Int32).toInt - (x4_2 + 1).toInt).toNat < ((1024 : Int32).toInt - x4_2.toInt).toNat from (by first | omega | decide | (simp only [Int32.le_iff_toInt_le, Int32.lt_iff_toInt_lt, ti_add, ti_sub, ti_mul, Int32.reduceToInt] at *; omega)))
        · refine ok_s16 hT rfl (by decide) (by first | omega | decide | (simp only [Int32.le_iff_toInt_le, Int32.lt_iff_toInt_lt, ti_add, ti_sub, ti_mul, Int32.reduceToInt] at *; omega)) (by first | omega | decide | (simp only [Int32.le_iff_toInt_le, Int32.lt_iff_toInt_lt, ti_add, ti_sub, ti_mul, Int32.reduceToInt] at *; omega)) (fun σ15 eσ15 hOσ15 hT => ?_)
          have hB : ZB σ15.1 := by first | exact HQ | exact ZB_s eσ15 hB
          exact ih8_2 (x4_2 + 1, σ15) (show Tr [227, 228] σ0 σ15 ∧ (0 ≤ (x4_2 + 1).toInt) ∧ (ZB σ15.1) from ⟨hT, (by first | omega | decide | (simp only [Int32.le_iff_toInt_le, Int32.lt_iff_toInt_lt, ti_add, ti_sub, ti_mul, Int32.reduceToInt] at *; omega)), hB⟩) (show ((1024 : Int32).toInt - (x4_2 + 1).toInt).toNat < ((1024 : Int32).toInt - x4_2.toInt).toNat from (by first | omega | decide | (simp only [Int32.le_iff_toInt_le, Int32.lt_iff_toInt_lt, ti_add, ti_sub, ti_mul, Int32.reduceToInt] at *; omega)))
  · refine ok_lp (fun t : Int32 × zS => Tr [227, 228] σ0 (t.2) ∧ (0 ≤ (t.1).toInt) ∧ (ZB (t.2).1)) (fun t : Int32 × zS => ((1024 : Int32).toInt - (t.1).toInt).toNat) (fun again16 t hI ih66_16 => ?_) N _ (show Tr [227, 228] σ0 σ0 ∧ (0 ≤ (0 : Int32).toInt) ∧ (ZB σ0.1) from ⟨hT, (by first | omega | decide | (simp only [Int32.le_iff_toInt_le, Int32.lt_iff_toInt_lt, ti_add, ti_sub, ti_mul, Int32.reduceToInt] at *; omega)), hB⟩) (show ((1024 : Int32).toInt - (0 : Int32).toInt).toNat < N from (by first | omega | decide | (simp only [Int32.le_iff_toInt_le, Int32.lt_iff_toInt_lt, ti_add, ti_sub, ti_mul, Int32.reduceToInt] at *; omega)))
    obtain ⟨x4_16, σ16⟩ := t
    have hI : Tr [227, 228] σ0 σ16 ∧ (0 ≤ x4_16.toInt) ∧ (ZB σ16.1) := hI
    obtain ⟨hT, hI16, hB⟩ := hI
    rw [F_X12_turns_66.eq_1]
    refine ok_if (fun hc17 => ?_) (fun hc17 => ?_)
    · exact ok_some ⟨hT, (show ZB σ16.1 from by exact hB)⟩
    · refine ok_gI0 hT rfl (by decide) ?_
      refine ok_if (fun hc19 => ?_) (fun hc19 => ?_)
      · rw [J_X12_turns_88.eq_1]
        refine ok_if (fun hc20 => ?_) (fun hc20 => ?_)
        · rw [J_X12_turns_99.eq_1]
          refine ok_if (fun hc21 => ?_) (fun hc21 => ?_)
          · refine ok_gR (v := 227) hT rfl (hR 218 17 rfl) ?_
            refine ok_s16 hT rfl (by decide) (by first | omega | decide | (simp only [Int32.le_iff_toInt_le, Int32.lt_iff_toInt_lt, ti_add, ti_sub, ti_mul, Int32.reduceToInt] at *; omega)) (by first | omega | decide | (simp only [Int32.le_iff_toInt_le, Int32.lt_iff_toInt_lt, ti_add, ti_sub, ti_mul, Int32.reduceToInt] at *; omega)) (fun σ23 eσ23 hOσ23 hT => ?_)
            have hB : ZB σ23.1 := by first | exact HQ | exact ZB_s eσ23 hB
            exact ih66_16 (x4_16 + 1, σ23) (show Tr [227, 228] σ0 σ23 ∧ (0 ≤ (x4_16 + 1).toInt) ∧ (ZB σ23.1) from ⟨hT, (by first | omega | decide | (simp only [Int32.le_iff_toInt_le, Int32.lt_iff_toInt_lt, ti_add, ti_sub, ti_mul, Int32.reduceToInt] at *; omega)), hB⟩) (show ((1024 : Int32).toInt - (x4_16 + 1).toInt).toNat < ((1024 : Int32).toInt - x4_16.toInt).toNat from (by first | omega | decide | (simp only [Int32.le_iff_toInt_le, Int32.lt_iff_toInt_lt, ti_add, ti_sub, ti_mul, Int32.reduceToInt] at *; omega)))
          · refine ok_aIn rfl (by first | omega | decide | (simp only [Int32.le_iff_toInt_le, Int32.lt_iff_toInt_lt, ti_add, ti_sub, ti_mul, Int32.reduceToInt] at *; omega)) (by first | omega | decide | (simp only [Int32.le_iff_toInt_le, Int32.lt_iff_toInt_lt, ti_add, ti_sub, ti_mul, Int32.reduceToInt] at *; omega)) (fun v24 ev24 => ?_)
            have zv24 : v24 = 0 ∨ v24 = 1 := by rw [ev24]; exact hB 220 rfl _
            refine ok_if (fun hc25 => ?_) (fun hc25 => ?_)
            · refine ok_gR (v := 227) hT rfl (hR 218 17 rfl) ?_
              refine ok_s16 hT rfl (by decide) (by first | omega | decide | (simp only [Int32.le_iff_toInt_le, Int32.lt_iff_toInt_lt, ti_add, ti_sub, ti_mul, Int32.reduceToInt] at *; omega)) (by first | omega | decide | (simp only [Int32.le_iff_toInt_le, Int32.lt_iff_toInt_lt, ti_add, ti_sub, ti_mul, Int32.reduceToInt] at *; omega)) (fun σ27 eσ27 hOσ27 hT => ?_)
              have hB : ZB σ27.1 := by first | exact HQ | exact ZB_s eσ27 hB
              exact ih66_16 (x4_16 + 1, σ27) (show Tr [227, 228] σ0 σ27 ∧ (0 ≤ (x4_16 + 1).toInt) ∧ (ZB σ27.1) from ⟨hT, (by first | omega | decide | (simp only [Int32.le_iff_toInt_le, Int32.lt_iff_toInt_lt, ti_add, ti_sub, ti_mul, Int32.reduceToInt] at *; omega)), hB⟩) (show ((1024 : Int32).toInt - (x4_16 + 1).toInt).toNat < ((1024 : Int32).toInt - x4_16.toInt).toNat from (by first | omega | decide | (simp only [Int32.le_iff_toInt_le, Int32.lt_iff_toInt_lt, ti_add, ti_sub, ti_mul, Int32.reduceToInt] at *; omega)))
            · refine ok_if (fun hc28 => ?_) (fun hc28 => ?_)
              · rw [J_X12_turns_127.eq_1]
                refine ok_gC rfl ?_
                refine ok_zbT (Q := fun V σ => V = 0 ∨ V = 1) hT (s_X12_isNested_220 hN (hR.tr hT) (hB) (by first | exact ha | (rw [hT.2 218 (by decide)]; exact ha)) (by first | omega | decide | (simp only [Int32.le_iff_toInt_le, Int32.lt_iff_toInt_lt, ti_add, ti_sub, ti_mul, Int32.reduceToInt] at *; omega))) (fun _ h9 => absurd h9 List.not_mem_nil) (fun v29 σ30 hOσ30 hT hqv29 => ?_)
                have hqv29 : v29 = 0 ∨ v29 = 1 := hqv29
                have hB : ZB σ30.1 := ZB.tr hOσ30 (by decide) hB
                refine ok_if (fun hc31 => ?_) (fun hc31 => ?_)
                · refine ok_gR (v := 227) hT rfl (hR 218 17 rfl) ?_
                  refine ok_s16 hT rfl (by decide) (by first | omega | decide | (simp only [Int32.le_iff_toInt_le, Int32.lt_iff_toInt_lt, ti_add, ti_sub, ti_mul, Int32.reduceToInt] at *; omega)) (by first | omega | decide | (simp only [Int32.le_iff_toInt_le, Int32.lt_iff_toInt_lt, ti_add, ti_sub, ti_mul, Int32.reduceToInt] at *; omega)) (fun σ33 eσ33 hOσ33 hT => ?_)
                  have hB : ZB σ33.1 := by first | exact HQ | exact ZB_s eσ33 hB
                  exact ih66_16 (x4_16 + 1, σ33) (show Tr [227, 228] σ0 σ33 ∧ (0 ≤ (x4_16 + 1).toInt) ∧ (ZB σ33.1) from ⟨hT, (by first | omega | decide | (simp only [Int32.le_iff_toInt_le, Int32.lt_iff_toInt_lt, ti_add, ti_sub, ti_mul, Int32.reduceToInt] at *; omega)), hB⟩) (show ((1024 : Int32).toInt - (x4_16 + 1).toInt).toNat < ((1024 : Int32).toInt - x4_16.toInt).toNat from (by first | omega | decide | (simp only [Int32.le_iff_toInt_le, Int32.lt_iff_toInt_lt, ti_add, ti_sub, ti_mul, Int32.reduceToInt] at *; omega)))
                · refine ok_gR (v := 227) hT rfl (hR 218 17 rfl) ?_
                  refine ok_s16 hT rfl (by decide) (by first | omega | decide | (simp only [Int32.le_iff_toInt_le, Int32.lt_iff_toInt_lt, ti_add, ti_sub, ti_mul, Int32.reduceToInt] at *; omega)) (by first | omega | decide | (simp only [Int32.le_iff_toInt_le, Int32.lt_iff_toInt_lt, ti_add, ti_sub, ti_mul, Int32.reduceToInt] at *; omega)) (fun σ35 eσ35 hOσ35 hT => ?_)
                  have hB : ZB σ35.1 := by first | exact HQ | exact ZB_s eσ35 hB
                  exact ih66_16 (x4_16 + 1, σ35) (show Tr [227, 228] σ0 σ35 ∧ (0 ≤ (x4_16 + 1).toInt) ∧ (ZB σ35.1) from ⟨hT, (by first | omega | decide | (simp only [Int32.le_iff_toInt_le, Int32.lt_iff_toInt_lt, ti_add, ti_sub, ti_mul, Int32.reduceToInt] at *; omega)), hB⟩) (show ((1024 : Int32).toInt - (x4_16 + 1).toInt).toNat < ((1024 : Int32).toInt - x4_16.toInt).toNat from (by first | omega | decide | (simp only [Int32.le_iff_toInt_le, Int32.lt_iff_toInt_lt, ti_add, ti_sub, ti_mul, Int32.reduceToInt] at *; omega)))
              · rw [J_X12_turns_127.eq_1]
                refine ok_gC rfl ?_
                refine ok_zbT (Q := fun V σ => V = 0 ∨ V = 1) hT (s_X12_isNested_220 hN (hR.tr hT) (hB) (by first | exact ha | (rw [hT.2 218 (by decide)]; exact ha)) (by first | omega | decide | (simp only [Int32.le_iff_toInt_le, Int32.lt_iff_toInt_lt, ti_add, ti_sub, ti_mul, Int32.reduceToInt] at *; omega))) (fun _ h9 => absurd h9 List.not_mem_nil) (fun v36 σ37 hOσ37 hT hqv36 => ?_)
                have hqv36 : v36 = 0 ∨ v36 = 1 := hqv36
                have hB : ZB σ37.1 := ZB.tr hOσ37 (by decide) hB
                refine ok_if (fun hc38 => ?_) (fun hc38 => ?_)
                · refine ok_gR (v := 227) hT rfl (hR 218 17 rfl) ?_
                  refine ok_s16 hT rfl (by decide) (by first | omega | decide | (simp only [Int32.le_iff_toInt_le, Int32.lt_iff_toInt_lt, ti_add, ti_sub, ti_mul, Int32.reduceToInt] at *; omega)) (by first | omega | decide | (simp only [Int32.le_iff_toInt_le, Int32.lt_iff_toInt_lt, ti_add, ti_sub, ti_mul, Int32.reduceToInt] at *; omega)) (fun σ40 eσ40 hOσ40 hT => ?_)
                  have hB : ZB σ40.1 := by first | exact HQ | exact ZB_s eσ40 hB
                  exact ih66_16 (x4_16 + 1, σ40) (show Tr [227, 228] σ0 σ40 ∧ (0 ≤ (x4_16 + 1).toInt) ∧ (ZB σ40.1) from ⟨hT, (by first | omega | decide | (simp only [Int32.le_iff_toInt_le, Int32.lt_iff_toInt_lt, ti_add, ti_sub, ti_mul, Int32.reduceToInt] at *; omega)), hB⟩) (show ((1024 : Int32).toInt - (x4_16 + 1).toInt).toNat < ((1024 : Int32).toInt - x4_16.toInt).toNat from (by first | omega | decide | (simp only [Int32.le_iff_toInt_le, Int32.lt_iff_toInt_lt, ti_add, ti_sub, ti_mul, Int32.reduceToInt] at *; omega)))
                · refine ok_gR (v := 227) hT rfl (hR 218 17 rfl) ?_
                  refine ok_s16 hT rfl (by decide) (by first | omega | decide | (simp only [Int32.le_iff_toInt_le, Int32.lt_iff_toInt_lt, ti_add, ti_sub, ti_mul, Int32.reduceToInt] at *; omega)) (by first | omega | decide | (simp only [Int32.le_iff_toInt_le, Int32.lt_iff_toInt_lt, ti_add, ti_sub, ti_mul, Int32.reduceToInt] at *; omega)) (fun σ42 eσ42 hOσ42 hT => ?_)
                  have hB : ZB σ42.1 := by first | exact HQ | exact ZB_s eσ42 hB
                  exact ih66_16 (x4_16 + 1, σ42) (show Tr [227, 228] σ0 σ42 ∧ (0 ≤ (x4_16 + 1).toInt) ∧ (ZB σ42.1) from ⟨hT, (by first | omega | decide | (simp only [Int32.le_iff_toInt_le, Int32.lt_iff_toInt_lt, ti_add, ti_sub, ti_mul, Int32.reduceToInt] at *; omega)), hB⟩) (show ((1024 : Int32).toInt - (x4_16 + 1).toInt).toNat < ((1024 : Int32).toInt - x4_16.toInt).toNat from (by first | omega | decide | (simp only [Int32.le_iff_toInt_le, Int32.lt_iff_toInt_lt, ti_add, ti_sub, ti_mul, Int32.reduceToInt] at *; omega)))
        · refine ok_if (fun hc43 => ?_) (fun hc43 => ?_)
          · rw [J_X12_turns_99.eq_1]
            refine ok_if (fun hc44 => ?_) (fun hc44 => ?_)
            · refine ok_gR (v := 227) hT rfl (hR 218 17 rfl) ?_
              refine ok_s16 hT rfl (by decide) (by first | omega | decide | (simp only [Int32.le_iff_toInt_le, Int32.lt_iff_toInt_lt, ti_add, ti_sub, ti_mul, Int32.reduceToInt] at *; omega)) (by first | omega | decide | (simp only [Int32.le_iff_toInt_le, Int32.lt_iff_toInt_lt, ti_add, ti_sub, ti_mul, Int32.reduceToInt] at *; omega)) (fun σ46 eσ46 hOσ46 hT => ?_)
              have hB : ZB σ46.1 := by first | exact HQ | exact ZB_s eσ46 hB
              exact ih66_16 (x4_16 + 1, σ46) (show Tr [227, 228] σ0 σ46 ∧ (0 ≤ (x4_16 + 1).toInt) ∧ (ZB σ46.1) from ⟨hT, (by first | omega | decide | (simp only [Int32.le_iff_toInt_le, Int32.lt_iff_toInt_lt, ti_add, ti_sub, ti_mul, Int32.reduceToInt] at *; omega)), hB⟩) (show ((1024 : Int32).toInt - (x4_16 + 1).toInt).toNat < ((1024 : Int32).toInt - x4_16.toInt).toNat from (by first | omega | decide | (simp only [Int32.le_iff_toInt_le, Int32.lt_iff_toInt_lt, ti_add, ti_sub, ti_mul, Int32.reduceToInt] at *; omega)))
            · refine ok_aIn rfl (by first | omega | decide | (simp only [Int32.le_iff_toInt_le, Int32.lt_iff_toInt_lt, ti_add, ti_sub, ti_mul, Int32.reduceToInt] at *; omega)) (by first | omega | decide | (simp only [Int32.le_iff_toInt_le, Int32.lt_iff_toInt_lt, ti_add, ti_sub, ti_mul, Int32.reduceToInt] at *; omega)) (fun v47 ev47 => ?_)
              have zv47 : v47 = 0 ∨ v47 = 1 := by rw [ev47]; exact hB 220 rfl _
              refine ok_if (fun hc48 => ?_) (fun hc48 => ?_)
              · refine ok_gR (v := 227) hT rfl (hR 218 17 rfl) ?_
                refine ok_s16 hT rfl (by decide) (by first | omega | decide | (simp only [Int32.le_iff_toInt_le, Int32.lt_iff_toInt_lt, ti_add, ti_sub, ti_mul, Int32.reduceToInt] at *; omega)) (by first | omega | decide | (simp only [Int32.le_iff_toInt_le, Int32.lt_iff_toInt_lt, ti_add, ti_sub, ti_mul, Int32.reduceToInt] at *; omega)) (fun σ50 eσ50 hOσ50 hT => ?_)
                have hB : ZB σ50.1 := by first | exact HQ | exact ZB_s eσ50 hB
                exact ih66_16 (x4_16 + 1, σ50) (show Tr [227, 228] σ0 σ50 ∧ (0 ≤ (x4_16 + 1).toInt) ∧ (ZB σ50.1) from ⟨hT, (by first | omega | decide | (simp only [Int32.le_iff_toInt_le, Int32.lt_iff_toInt_lt, ti_add, ti_sub, ti_mul, Int32.reduceToInt] at *; omega)), hB⟩) (show ((1024 : Int32).toInt - (x4_16 + 1).toInt).toNat < ((1024 : Int32).toInt - x4_16.toInt).toNat from (by first | omega | decide | (simp only [Int32.le_iff_toInt_le, Int32.lt_iff_toInt_lt, ti_add, ti_sub, ti_mul, Int32.reduceToInt] at *; omega)))
              · refine ok_if (fun hc51 => ?_) (fun hc51 => ?_)
                · rw [J_X12_turns_127.eq_1]
                  refine ok_gC rfl ?_
                  refine ok_zbT (Q := fun V σ => V = 0 ∨ V = 1) hT (s_X12_isNested_220 hN (hR.tr hT) (hB) (by first | exact ha | (rw [hT.2 218 (by decide)]; exact ha)) (by first | omega | decide | (simp only [Int32.le_iff_toInt_le, Int32.lt_iff_toInt_lt, ti_add, ti_sub, ti_mul, Int32.reduceToInt] at *; omega))) (fun _ h9 => absurd h9 List.not_mem_nil) (fun v52 σ53 hOσ53 hT hqv52 => ?_)
                  have hqv52 : v52 = 0 ∨ v52 = 1 := hqv52
                  have hB : ZB σ53.1 := ZB.tr hOσ53 (by decide) hB
                  refine ok_if (fun hc54 => ?_) (fun hc54 => ?_)
                  · refine ok_gR (v := 227) hT rfl (hR 218 17 rfl) ?_
                    refine ok_s16 hT rfl (by decide) (by first | omega | decide | (simp only [Int32.le_iff_toInt_le, Int32.lt_iff_toInt_lt, ti_add, ti_sub, ti_mul, Int32.reduceToInt] at *; omega)) (by first | omega | decide | (simp only [Int32.le_iff_toInt_le, Int32.lt_iff_toInt_lt, ti_add, ti_sub, ti_mul, Int32.reduceToInt] at *; omega)) (fun σ56 eσ56 hOσ56 hT => ?_)
                    have hB : ZB σ56.1 := by first | exact HQ | exact ZB_s eσ56 hB
                    exact ih66_16 (x4_16 + 1, σ56) (show Tr [227, 228] σ0 σ56 ∧ (0 ≤ (x4_16 + 1).toInt) ∧ (ZB σ56.1) from ⟨hT, (by first | omega | decide | (simp only [Int32.le_iff_toInt_le, Int32.lt_iff_toInt_lt, ti_add, ti_sub, ti_mul, Int32.reduceToInt] at *; omega)), hB⟩) (show ((1024 : Int32).toInt - (x4_16 + 1).toInt).toNat < ((1024 : Int32).toInt - x4_16.toInt).toNat from (by first | omega | decide | (simp only [Int32.le_iff_toInt_le, Int32.lt_iff_toInt_lt, ti_add, ti_sub, ti_mul, Int32.reduceToInt] at *; omega)))
                  · refine ok_gR (v := 227) hT rfl (hR 218 17 rfl) ?_
                    refine ok_s16 hT rfl (by decide) (by first | omega | decide | (simp only [Int32.le_iff_toInt_le, Int32.lt_iff_toInt_lt, ti_add, ti_sub, ti_mul, Int32.reduceToInt] at *; omega)) (by first | omega | decide | (simp only [Int32.le_iff_toInt_le, Int32.lt_iff_toInt_lt, ti_add, ti_sub, ti_mul, Int32.reduceToInt] at *; omega)) (fun σ58 eσ58 hOσ58 hT => ?_)
                    have hB : ZB σ58.1 := by first | exact HQ | exact ZB_s eσ58 hB
                    exact ih66_16 (x4_16 + 1, σ58) (show Tr [227, 228] σ0 σ58 ∧ (0 ≤ (x4_16 + 1).toInt) ∧ (ZB σ58.1) from ⟨hT, (by first | omega | decide | (simp only [Int32.le_iff_toInt_le, Int32.lt_iff_toInt_lt, ti_add, ti_sub, ti_mul, Int32.reduceToInt] at *; omega)), hB⟩) (show ((1024 : Int32).toInt - (x4_16 + 1).toInt).toNat < ((1024 : Int32).toInt - x4_16.toInt).toNat from (by first | omega | decide | (simp only [Int32.le_iff_toInt_le, Int32.lt_iff_toInt_lt, ti_add, ti_sub, ti_mul, Int32.reduceToInt] at *; omega)))
                · rw [J_X12_turns_127.eq_1]
                  refine ok_gC rfl ?_
                  refine ok_zbT (Q := fun V σ => V = 0 ∨ V = 1) hT (s_X12_isNested_220 hN (hR.tr hT) (hB) (by first | exact ha | (rw [hT.2 218 (by decide)]; exact ha)) (by first | omega | decide | (simp only [Int32.le_iff_toInt_le, Int32.lt_iff_toInt_lt, ti_add, ti_sub, ti_mul, Int32.reduceToInt] at *; omega))) (fun _ h9 => absurd h9 List.not_mem_nil) (fun v59 σ60 hOσ60 hT hqv59 => ?_)
                  have hqv59 : v59 = 0 ∨ v59 = 1 := hqv59
                  have hB : ZB σ60.1 := ZB.tr hOσ60 (by decide) hB
                  refine ok_if (fun hc61 => ?_) (fun hc61 => ?_)
                  · refine ok_gR (v := 227) hT rfl (hR 218 17 rfl) ?_
                    refine ok_s16 hT rfl (by decide) (by first | omega | decide | (simp only [Int32.le_iff_toInt_le, Int32.lt_iff_toInt_lt, ti_add, ti_sub, ti_mul, Int32.reduceToInt] at *; omega)) (by first | omega | decide | (simp only [Int32.le_iff_toInt_le, Int32.lt_iff_toInt_lt, ti_add, ti_sub, ti_mul, Int32.reduceToInt] at *; omega)) (fun σ63 eσ63 hOσ63 hT => ?_)
                    have hB : ZB σ63.1 := by first | exact HQ | exact ZB_s eσ63 hB
                    exact ih66_16 (x4_16 + 1, σ63) (show Tr [227, 228] σ0 σ63 ∧ (0 ≤ (x4_16 + 1).toInt) ∧ (ZB σ63.1) from ⟨hT, (by first | omega | decide | (simp only [Int32.le_iff_toInt_le, Int32.lt_iff_toInt_lt, ti_add, ti_sub, ti_mul, Int32.reduceToInt] at *; omega)), hB⟩) (show ((1024 : Int32).toInt - (x4_16 + 1).toInt).toNat < ((1024 : Int32).toInt - x4_16.toInt).toNat from (by first | omega | decide | (simp only [Int32.le_iff_toInt_le, Int32.lt_iff_toInt_lt, ti_add, ti_sub, ti_mul, Int32.reduceToInt] at *; omega)))
                  · refine ok_gR (v := 227) hT rfl (hR 218 17 rfl) ?_
                    refine ok_s16 hT rfl (by decide) (by first | omega | decide | (simp only [Int32.le_iff_toInt_le, Int32.lt_iff_toInt_lt, ti_add, ti_sub, ti_mul, Int32.reduceToInt] at *; omega)) (by first | omega | decide | (simp only [Int32.le_iff_toInt_le, Int32.lt_iff_toInt_lt, ti_add, ti_sub, ti_mul, Int32.reduceToInt] at *; omega)) (fun σ65 eσ65 hOσ65 hT => ?_)
                    have hB : ZB σ65.1 := by first | exact HQ | exact ZB_s eσ65 hB
                    exact ih66_16 (x4_16 + 1, σ65) (show Tr [227, 228] σ0 σ65 ∧ (0 ≤ (x4_16 + 1).toInt) ∧ (ZB σ65.1) from ⟨hT, (by first | omega | decide | (simp only [Int32.le_iff_toInt_le, Int32.lt_iff_toInt_lt, ti_add, ti_sub, ti_mul, Int32.reduceToInt] at *; omega)), hB⟩) (show ((1024 : Int32).toInt - (x4_16 + 1).toInt).toNat < ((1024 : Int32).toInt - x4_16.toInt).toNat from (by first | omega | decide | (simp only [Int32.le_iff_toInt_le, Int32.lt_iff_toInt_lt, ti_add, ti_sub, ti_mul, Int32.reduceToInt] at *; omega)))
          · refine ok_if (fun hc66 => ?_) (fun hc66 => ?_)
            · refine ok_if (fun hc67 => ?_) (fun hc67 => ?_)
              · refine ok_gR (v := 227) hT rfl (hR 218 17 rfl) ?_
                refine ok_s16 hT rfl (by decide) (by first | omega | decide | (simp only [Int32.le_iff_toInt_le, Int32.lt_iff_toInt_lt, ti_add, ti_sub, ti_mul, Int32.reduceToInt] at *; omega)) (by first | omega | decide | (simp only [Int32.le_iff_toInt_le, Int32.lt_iff_toInt_lt, ti_add, ti_sub, ti_mul, Int32.reduceToInt] at *; omega)) (fun σ69 eσ69 hOσ69 hT => ?_)
                have hB : ZB σ69.1 := by first | exact HQ | exact ZB_s eσ69 hB
                exact ih66_16 (x4_16 + 1, σ69) (show Tr [227, 228] σ0 σ69 ∧ (0 ≤ (x4_16 + 1).toInt) ∧ (ZB σ69.1) from ⟨hT, (by first | omega | decide | (simp only [Int32.le_iff_toInt_le, Int32.lt_iff_toInt_lt, ti_add, ti_sub, ti_mul, Int32.reduceToInt] at *; omega)), hB⟩) (show ((1024 : Int32).toInt - (x4_16 + 1).toInt).toNat < ((1024 : Int32).toInt - x4_16.toInt).toNat from (by first | omega | decide | (simp only [Int32.le_iff_toInt_le, Int32.lt_iff_toInt_lt, ti_add, ti_sub, ti_mul, Int32.reduceToInt] at *; omega)))
              · refine ok_aIn rfl (by first | omega | decide | (simp only [Int32.le_iff_toInt_le, Int32.lt_iff_toInt_lt, ti_add, ti_sub, ti_mul, Int32.reduceToInt] at *; omega)) (by first | omega | decide | (simp only [Int32.le_iff_toInt_le, Int32.lt_iff_toInt_lt, ti_add, ti_sub, ti_mul, Int32.reduceToInt] at *; omega)) (fun v70 ev70 => ?_)
                have zv70 : v70 = 0 ∨ v70 = 1 := by rw [ev70]; exact hB 220 rfl _
                refine ok_if (fun hc71 => ?_) (fun hc71 => ?_)
                · refine ok_gR (v := 227) hT rfl (hR 218 17 rfl) ?_
                  refine ok_s16 hT rfl (by decide) (by first | omega | decide | (simp only [Int32.le_iff_toInt_le, Int32.lt_iff_toInt_lt, ti_add, ti_sub, ti_mul, Int32.reduceToInt] at *; omega)) (by first | omega | decide | (simp only [Int32.le_iff_toInt_le, Int32.lt_iff_toInt_lt, ti_add, ti_sub, ti_mul, Int32.reduceToInt] at *; omega)) (fun σ73 eσ73 hOσ73 hT => ?_)
                  have hB : ZB σ73.1 := by first | exact HQ | exact ZB_s eσ73 hB
                  exact ih66_16 (x4_16 + 1, σ73) (show Tr [227, 228] σ0 σ73 ∧ (0 ≤ (x4_16 + 1).toInt) ∧ (ZB σ73.1) from ⟨hT, (by first | omega | decide | (simp only [Int32.le_iff_toInt_le, Int32.lt_iff_toInt_lt, ti_add, ti_sub, ti_mul, Int32.reduceToInt] at *; omega)), hB⟩) (show ((1024 : Int32).toInt - (x4_16 + 1).toInt).toNat < ((1024 : Int32).toInt - x4_16.toInt).toNat from (by first | omega | decide | (simp only [Int32.le_iff_toInt_le, Int32.lt_iff_toInt_lt, ti_add, ti_sub, ti_mul, Int32.reduceToInt] at *; omega)))
                · refine ok_gR (v := 227) hT rfl (hR 218 17 rfl) ?_
                  refine ok_s16 hT rfl (by decide) (by first | omega | decide | (simp only [Int32.le_iff_toInt_le, Int32.lt_iff_toInt_lt, ti_add, ti_sub, ti_mul, Int32.reduceToInt] at *; omega)) (by first | omega | decide | (simp only [Int32.le_iff_toInt_le, Int32.lt_iff_toInt_lt, ti_add, ti_sub, ti_mul, Int32.reduceToInt] at *; omega)) (fun σ75 eσ75 hOσ75 hT => ?_)
                  have hB : ZB σ75.1 := by first | exact HQ | exact ZB_s eσ75 hB
                  exact ih66_16 (x4_16 + 1, σ75) (show Tr [227, 228] σ0 σ75 ∧ (0 ≤ (x4_16 + 1).toInt) ∧ (ZB σ75.1) from ⟨hT, (by first | omega | decide | (simp only [Int32.le_iff_toInt_le, Int32.lt_iff_toInt_lt, ti_add, ti_sub, ti_mul, Int32.reduceToInt] at *; omega)), hB⟩) (show ((1024 : Int32).toInt - (x4_16 + 1).toInt).toNat < ((1024 : Int32).toInt - x4_16.toInt).toNat from (by first | omega | decide | (simp only [Int32.le_iff_toInt_le, Int32.lt_iff_toInt_lt, ti_add, ti_sub, ti_mul, Int32.reduceToInt] at *; omega)))
            · refine ok_if (fun hc76 => ?_) (fun hc76 => ?_)
              · rw [J_X12_turns_182.eq_1]
                refine ok_if (fun hc77 => ?_) (fun hc77 => ?_)
                · refine ok_gR (v := 227) hT rfl (hR 218 17 rfl) ?_
                  refine ok_s16 hT rfl (by decide) (by first | omega | decide | (simp only [Int32.le_iff_toInt_le, Int32.lt_iff_toInt_lt, ti_add, ti_sub, ti_mul, Int32.reduceToInt] at *; omega)) (by first | omega | decide | (simp only [Int32.le_iff_toInt_le, Int32.lt_iff_toInt_lt, ti_add, ti_sub, ti_mul, Int32.reduceToInt] at *; omega)) (fun σ79 eσ79 hOσ79 hT => ?_)
                  have hB : ZB σ79.1 := by first | exact HQ | exact ZB_s eσ79 hB
                  exact ih66_16 (x4_16 + 1, σ79) (show Tr [227, 228] σ0 σ79 ∧ (0 ≤ (x4_16 + 1).toInt) ∧ (ZB σ79.1) from ⟨hT, (by first | omega | decide | (simp only [Int32.le_iff_toInt_le, Int32.lt_iff_toInt_lt, ti_add, ti_sub, ti_mul, Int32.reduceToInt] at *; omega)), hB⟩) (show ((1024 : Int32).toInt - (x4_16 + 1).toInt).toNat < ((1024 : Int32).toInt - x4_16.toInt).toNat from (by first | omega | decide | (simp only [Int32.le_iff_toInt_le, Int32.lt_iff_toInt_lt, ti_add, ti_sub, ti_mul, Int32.reduceToInt] at *; omega)))
                · refine ok_aIn rfl (by first | omega | decide | (simp only [Int32.le_iff_toInt_le, Int32.lt_iff_toInt_lt, ti_add, ti_sub, ti_mul, Int32.reduceToInt] at *; omega)) (by first | omega | decide | (simp only [Int32.le_iff_toInt_le, Int32.lt_iff_toInt_lt, ti_add, ti_sub, ti_mul, Int32.reduceToInt] at *; omega)) (fun v80 ev80 => ?_)
                  have zv80 : v80 = 0 ∨ v80 = 1 := by rw [ev80]; exact hB 220 rfl _
                  refine ok_if (fun hc81 => ?_) (fun hc81 => ?_)
                  · refine ok_if (fun hc82 => ?_) (fun hc82 => ?_)
                    · rw [J_X12_turns_211.eq_1]
                      refine ok_gC rfl ?_
                      refine ok_zbT (Q := fun V σ => V = 0 ∨ V = 1) hT (s_X12_isNested_220 hN (hR.tr hT) (hB) (by first | exact ha | (rw [hT.2 218 (by decide)]; exact ha)) (by first | omega | decide | (simp only [Int32.le_iff_toInt_le, Int32.lt_iff_toInt_lt, ti_add, ti_sub, ti_mul, Int32.reduceToInt] at *; omega))) (fun _ h9 => absurd h9 List.not_mem_nil) (fun v83 σ84 hOσ84 hT hqv83 => ?_)
                      have hqv83 : v83 = 0 ∨ v83 = 1 := hqv83
                      have hB : ZB σ84.1 := ZB.tr hOσ84 (by decide) hB
                      refine ok_if (fun hc85 => ?_) (fun hc85 => ?_)
                      · refine ok_gR (v := 227) hT rfl (hR 218 17 rfl) ?_
                        refine ok_s16 hT rfl (by decide) (by first | omega | decide | (simp only [Int32.le_iff_toInt_le, Int32.lt_iff_toInt_lt, ti_add, ti_sub, ti_mul, Int32.reduceToInt] at *; omega)) (by first | omega | decide | (simp only [Int32.le_iff_toInt_le, Int32.lt_iff_toInt_lt, ti_add, ti_sub, ti_mul, Int32.reduceToInt] at *; omega)) (fun σ87 eσ87 hOσ87 hT => ?_)
                        have hB : ZB σ87.1 := by first | exact HQ | exact ZB_s eσ87 hB
                        exact ih66_16 (x4_16 + 1, σ87) (show Tr [227, 228] σ0 σ87 ∧ (0 ≤ (x4_16 + 1).toInt) ∧ (ZB σ87.1) from ⟨hT, (by first | omega | decide | (simp only [Int32.le_iff_toInt_le, Int32.lt_iff_toInt_lt, ti_add, ti_sub, ti_mul, Int32.reduceToInt] at *; omega)), hB⟩) (show ((1024 : Int32).toInt - (x4_16 + 1).toInt).toNat < ((1024 : Int32).toInt - x4_16.toInt).toNat from (by first | omega | decide | (simp only [Int32.le_iff_toInt_le, Int32.lt_iff_toInt_lt, ti_add, ti_sub, ti_mul, Int32.reduceToInt] at *; omega)))
                      · refine ok_gR (v := 227) hT rfl (hR 218 17 rfl) ?_
                        refine ok_s16 hT rfl (by decide) (by first | omega | decide | (simp only [Int32.le_iff_toInt_le, Int32.lt_iff_toInt_lt, ti_add, ti_sub, ti_mul, Int32.reduceToInt] at *; omega)) (by first | omega | decide | (simp only [Int32.le_iff_toInt_le, Int32.lt_iff_toInt_lt, ti_add, ti_sub, ti_mul, Int32.reduceToInt] at *; omega)) (fun σ89 eσ89 hOσ89 hT => ?_)
                        have hB : ZB σ89.1 := by first | exact HQ | exact ZB_s eσ89 hB
                        exact ih66_16 (x4_16 + 1, σ89) (show Tr [227, 228] σ0 σ89 ∧ (0 ≤ (x4_16 + 1).toInt) ∧ (ZB σ89.1) from ⟨hT, (by first | omega | decide | (simp only [Int32.le_iff_toInt_le, Int32.lt_iff_toInt_lt, ti_add, ti_sub, ti_mul, Int32.reduceToInt] at *; omega)), hB⟩) (show ((1024 : Int32).toInt - (x4_16 + 1).toInt).toNat < ((1024 : Int32).toInt - x4_16.toInt).toNat from (by first | omega | decide | (simp only [Int32.le_iff_toInt_le, Int32.lt_iff_toInt_lt, ti_add, ti_sub, ti_mul, Int32.reduceToInt] at *; omega)))
                    · rw [J_X12_turns_211.eq_1]
                      refine ok_gC rfl ?_
                      refine ok_zbT (Q := fun V σ => V = 0 ∨ V = 1) hT (s_X12_isNested_220 hN (hR.tr hT) (hB) (by first | exact ha | (rw [hT.2 218 (by decide)]; exact ha)) (by first | omega | decide | (simp only [Int32.le_iff_toInt_le, Int32.lt_iff_toInt_lt, ti_add, ti_sub, ti_mul, Int32.reduceToInt] at *; omega))) (fun _ h9 => absurd h9 List.not_mem_nil) (fun v90 σ91 hOσ91 hT hqv90 => ?_)
                      have hqv90 : v90 = 0 ∨ v90 = 1 := hqv90
                      have hB : ZB σ91.1 := ZB.tr hOσ91 (by decide) hB
                      refine ok_if (fun hc92 => ?_) (fun hc92 => ?_)
                      · refine ok_gR (v := 227) hT rfl (hR 218 17 rfl) ?_
                        refine ok_s16 hT rfl (by decide) (by first | omega | decide | (simp only [Int32.le_iff_toInt_le, Int32.lt_iff_toInt_lt, ti_add, ti_sub, ti_mul, Int32.reduceToInt] at *; omega)) (by first | omega | decide | (simp only [Int32.le_iff_toInt_le, Int32.lt_iff_toInt_lt, ti_add, ti_sub, ti_mul, Int32.reduceToInt] at *; omega)) (fun σ94 eσ94 hOσ94 hT => ?_)
                        have hB : ZB σ94.1 := by first | exact HQ | exact ZB_s eσ94 hB
                        exact ih66_16 (x4_16 + 1, σ94) (show Tr [227, 228] σ0 σ94 ∧ (0 ≤ (x4_16 + 1).toInt) ∧ (ZB σ94.1) from ⟨hT, (by first | omega | decide | (simp only [Int32.le_iff_toInt_le, Int32.lt_iff_toInt_lt, ti_add, ti_sub, ti_mul, Int32.reduceToInt] at *; omega)), hB⟩) (show ((1024 : Int32).toInt - (x4_16 + 1).toInt).toNat < ((1024 : Int32).toInt - x4_16.toInt).toNat from (by first | omega | decide | (simp only [Int32.le_iff_toInt_le, Int32.lt_iff_toInt_lt, ti_add, ti_sub, ti_mul, Int32.reduceToInt] at *; omega)))
                      · refine ok_gR (v := 227) hT rfl (hR 218 17 rfl) ?_
                        refine ok_s16 hT rfl (by decide) (by first | omega | decide | (simp only [Int32.le_iff_toInt_le, Int32.lt_iff_toInt_lt, ti_add, ti_sub, ti_mul, Int32.reduceToInt] at *; omega)) (by first | omega | decide | (simp only [Int32.le_iff_toInt_le, Int32.lt_iff_toInt_lt, ti_add, ti_sub, ti_mul, Int32.reduceToInt] at *; omega)) (fun σ96 eσ96 hOσ96 hT => ?_)
                        have hB : ZB σ96.1 := by first | exact HQ | exact ZB_s eσ96 hB
                        exact ih66_16 (x4_16 + 1, σ96) (show Tr [227, 228] σ0 σ96 ∧ (0 ≤ (x4_16 + 1).toInt) ∧ (ZB σ96.1) from ⟨hT, (by first | omega | decide | (simp only [Int32.le_iff_toInt_le, Int32.lt_iff_toInt_lt, ti_add, ti_sub, ti_mul, Int32.reduceToInt] at *; omega)), hB⟩) (show ((1024 : Int32).toInt - (x4_16 + 1).toInt).toNat < ((1024 : Int32).toInt - x4_16.toInt).toNat from (by first | omega | decide | (simp only [Int32.le_iff_toInt_le, Int32.lt_iff_toInt_lt, ti_add, ti_sub, ti_mul, Int32.reduceToInt] at *; omega)))
                  · refine ok_gR (v := 227) hT rfl (hR 218 17 rfl) ?_
                    refine ok_s16 hT rfl (by decide) (by first | omega | decide | (simp only [Int32.le_iff_toInt_le, Int32.lt_iff_toInt_lt, ti_add, ti_sub, ti_mul, Int32.reduceToInt] at *; omega)) (by first | omega | decide | (simp only [Int32.le_iff_toInt_le, Int32.lt_iff_toInt_lt, ti_add, ti_sub, ti_mul, Int32.reduceToInt] at *; omega)) (fun σ98 eσ98 hOσ98 hT => ?_)
                    have hB : ZB σ98.1 := by first | exact HQ | exact ZB_s eσ98 hB
                    exact ih66_16 (x4_16 + 1, σ98) (show Tr [227, 228] σ0 σ98 ∧ (0 ≤ (x4_16 + 1).toInt) ∧ (ZB σ98.1) from ⟨hT, (by first | omega | decide | (simp only [Int32.le_iff_toInt_le, Int32.lt_iff_toInt_lt, ti_add, ti_sub, ti_mul, Int32.reduceToInt] at *; omega)), hB⟩) (show ((1024 : Int32).toInt - (x4_16 + 1).toInt).toNat < ((1024 : Int32).toInt - x4_16.toInt).toNat from (by first | omega | decide | (simp only [Int32.le_iff_toInt_le, Int32.lt_iff_toInt_lt, ti_add, ti_sub, ti_mul, Int32.reduceToInt] at *; omega)))
              · refine ok_if (fun hc99 => ?_) (fun hc99 => ?_)
                · rw [J_X12_turns_182.eq_1]
                  refine ok_if (fun hc100 => ?_) (fun hc100 => ?_)
                  · refine ok_gR (v := 227) hT rfl (hR 218 17 rfl) ?_
                    refine ok_s16 hT rfl (by decide) (by first | omega | decide | (simp only [Int32.le_iff_toInt_le, Int32.lt_iff_toInt_lt, ti_add, ti_sub, ti_mul, Int32.reduceToInt] at *; omega)) (by first | omega | decide | (simp only [Int32.le_iff_toInt_le, Int32.lt_iff_toInt_lt, ti_add, ti_sub, ti_mul, Int32.reduceToInt] at *; omega)) (fun σ102 eσ102 hOσ102 hT => ?_)
                    have hB : ZB σ102.1 := by first | exact HQ | exact ZB_s eσ102 hB
                    exact ih66_16 (x4_16 + 1, σ102) (show Tr [227, 228] σ0 σ102 ∧ (0 ≤ (x4_16 + 1).toInt) ∧ (ZB σ102.1) from ⟨hT, (by first | omega | decide | (simp only [Int32.le_iff_toInt_le, Int32.lt_iff_toInt_lt, ti_add, ti_sub, ti_mul, Int32.reduceToInt] at *; omega)), hB⟩) (show ((1024 : Int32).toInt - (x4_16 + 1).toInt).toNat < ((1024 : Int32).toInt - x4_16.toInt).toNat from (by first | omega | decide | (simp only [Int32.le_iff_toInt_le, Int32.lt_iff_toInt_lt, ti_add, ti_sub, ti_mul, Int32.reduceToInt] at *; omega)))
                  · refine ok_aIn rfl (by first | omega | decide | (simp only [Int32.le_iff_toInt_le, Int32.lt_iff_toInt_lt, ti_add, ti_sub, ti_mul, Int32.reduceToInt] at *; omega)) (by first | omega | decide | (simp only [Int32.le_iff_toInt_le, Int32.lt_iff_toInt_lt, ti_add, ti_sub, ti_mul, Int32.reduceToInt] at *; omega)) (fun v103 ev103 => ?_)
                    have zv103 : v103 = 0 ∨ v103 = 1 := by rw [ev103]; exact hB 220 rfl _
                    refine ok_if (fun hc104 => ?_) (fun hc104 => ?_)
                    · refine ok_if (fun hc105 => ?_) (fun hc105 => ?_)
                      · rw [J_X12_turns_211.eq_1]
                        refine ok_gC rfl ?_
                        refine ok_zbT (Q := fun V σ => V = 0 ∨ V = 1) hT (s_X12_isNested_220 hN (hR.tr hT) (hB) (by first | exact ha | (rw [hT.2 218 (by decide)]; exact ha)) (by first | omega | decide | (simp only [Int32.le_iff_toInt_le, Int32.lt_iff_toInt_lt, ti_add, ti_sub, ti_mul, Int32.reduceToInt] at *; omega))) (fun _ h9 => absurd h9 List.not_mem_nil) (fun v106 σ107 hOσ107 hT hqv106 => ?_)
                        have hqv106 : v106 = 0 ∨ v106 = 1 := hqv106
                        have hB : ZB σ107.1 := ZB.tr hOσ107 (by decide) hB
                        refine ok_if (fun hc108 => ?_) (fun hc108 => ?_)
                        · refine ok_gR (v := 227) hT rfl (hR 218 17 rfl) ?_
                          refine ok_s16 hT rfl (by decide) (by first | omega | decide | (simp only [Int32.le_iff_toInt_le, Int32.lt_iff_toInt_lt, ti_add, ti_sub, ti_mul, Int32.reduceToInt] at *; omega)) (by first | omega | decide | (simp only [Int32.le_iff_toInt_le, Int32.lt_iff_toInt_lt, ti_add, ti_sub, ti_mul, Int32.reduceToInt] at *; omega)) (fun σ110 eσ110 hOσ110 hT => ?_)
                          have hB : ZB σ110.1 := by first | exact HQ | exact ZB_s eσ110 hB
                          exact ih66_16 (x4_16 + 1, σ110) (show Tr [227, 228] σ0 σ110 ∧ (0 ≤ (x4_16 + 1).toInt) ∧ (ZB σ110.1) from ⟨hT, (by first | omega | decide | (simp only [Int32.le_iff_toInt_le, Int32.lt_iff_toInt_lt, ti_add, ti_sub, ti_mul, Int32.reduceToInt] at *; omega)), hB⟩) (show ((1024 : Int32).toInt - (x4_16 + 1).toInt).toNat < ((1024 : Int32).toInt - x4_16.toInt).toNat from (by first | omega | decide | (simp only [Int32.le_iff_toInt_le, Int32.lt_iff_toInt_lt, ti_add, ti_sub, ti_mul, Int32.reduceToInt] at *; omega)))
                        · refine ok_gR (v := 227) hT rfl (hR 218 17 rfl) ?_
                          refine ok_s16 hT rfl (by decide) (by first | omega | decide | (simp only [Int32.le_iff_toInt_le, Int32.lt_iff_toInt_lt, ti_add, ti_sub, ti_mul, Int32.reduceToInt] at *; omega)) (by first | omega | decide | (simp only [Int32.le_iff_toInt_le, Int32.lt_iff_toInt_lt, ti_add, ti_sub, ti_mul, Int32.reduceToInt] at *; omega)) (fun σ112 eσ112 hOσ112 hT => ?_)
                          have hB : ZB σ112.1 := by first | exact HQ | exact ZB_s eσ112 hB
                          exact ih66_16 (x4_16 + 1, σ112) (show Tr [227, 228] σ0 σ112 ∧ (0 ≤ (x4_16 + 1).toInt) ∧ (ZB σ112.1) from ⟨hT, (by first | omega | decide | (simp only [Int32.le_iff_toInt_le, Int32.lt_iff_toInt_lt, ti_add, ti_sub, ti_mul, Int32.reduceToInt] at *; omega)), hB⟩) (show ((1024 : Int32).toInt - (x4_16 + 1).toInt).toNat < ((1024 : Int32).toInt - x4_16.toInt).toNat from (by first | omega | decide | (simp only [Int32.le_iff_toInt_le, Int32.lt_iff_toInt_lt, ti_add, ti_sub, ti_mul, Int32.reduceToInt] at *; omega)))
                      · rw [J_X12_turns_211.eq_1]
                        refine ok_gC rfl ?_
                        refine ok_zbT (Q := fun V σ => V = 0 ∨ V = 1) hT (s_X12_isNested_220 hN (hR.tr hT) (hB) (by first | exact ha | (rw [hT.2 218 (by decide)]; exact ha)) (by first | omega | decide | (simp only [Int32.le_iff_toInt_le, Int32.lt_iff_toInt_lt, ti_add, ti_sub, ti_mul, Int32.reduceToInt] at *; omega))) (fun _ h9 => absurd h9 List.not_mem_nil) (fun v113 σ114 hOσ114 hT hqv113 => ?_)
                        have hqv113 : v113 = 0 ∨ v113 = 1 := hqv113
                        have hB : ZB σ114.1 := ZB.tr hOσ114 (by decide) hB
                        refine ok_if (fun hc115 => ?_) (fun hc115 => ?_)
                        · refine ok_gR (v := 227) hT rfl (hR 218 17 rfl) ?_
                          refine ok_s16 hT rfl (by decide) (by first | omega | decide | (simp only [Int32.le_iff_toInt_le, Int32.lt_iff_toInt_lt, ti_add, ti_sub, ti_mul, Int32.reduceToInt] at *; omega)) (by first | omega | decide | (simp only [Int32.le_iff_toInt_le, Int32.lt_iff_toInt_lt, ti_add, ti_sub, ti_mul, Int32.reduceToInt] at *; omega)) (fun σ117 eσ117 hOσ117 hT => ?_)
                          have hB : ZB σ117.1 := by first | exact HQ | exact ZB_s eσ117 hB
                          exact ih66_16 (x4_16 + 1, σ117) (show Tr [227, 228] σ0 σ117 ∧ (0 ≤ (x4_16 + 1).toInt) ∧ (ZB σ117.1) from ⟨hT, (by first | omega | decide | (simp only [Int32.le_iff_toInt_le, Int32.lt_iff_toInt_lt, ti_add, ti_sub, ti_mul, Int32.reduceToInt] at *; omega)), hB⟩) (show ((1024 : Int32).toInt - (x4_16 + 1).toInt).toNat < ((1024 : Int32).toInt - x4_16.toInt).toNat from (by first | omega | decide | (simp only [Int32.le_iff_toInt_le, Int32.lt_iff_toInt_lt, ti_add, ti_sub, ti_mul, Int32.reduceToInt] at *; omega)))
                        · refine ok_gR (v := 227) hT rfl (hR 218 17 rfl) ?_
                          refine ok_s16 hT rfl (by decide) (by first | omega | decide | (simp only [Int32.le_iff_toInt_le, Int32.lt_iff_toInt_lt, ti_add, ti_sub, ti_mul, Int32.reduceToInt] at *; omega)) (by first | omega | decide | (simp only [Int32.le_iff_toInt_le, Int32.lt_iff_toInt_lt, ti_add, ti_sub, ti_mul, Int32.reduceToInt] at *; omega)) (fun σ119 eσ119 hOσ119 hT => ?_)
                          have hB : ZB σ119.1 := by first | exact HQ | exact ZB_s eσ119 hB
                          exact ih66_16 (x4_16 + 1, σ119) (show Tr [227, 228] σ0 σ119 ∧ (0 ≤ (x4_16 + 1).toInt) ∧ (ZB σ119.1) from ⟨hT, (by first | omega | decide | (simp only [Int32.le_iff_toInt_le, Int32.lt_iff_toInt_lt, ti_add, ti_sub, ti_mul, Int32.reduceToInt] at *; omega)), hB⟩) (show ((1024 : Int32).toInt - (x4_16 + 1).toInt).toNat < ((1024 : Int32).toInt - x4_16.toInt).toNat from (by first | omega | decide | (simp only [Int32.le_iff_toInt_le, Int32.lt_iff_toInt_lt, ti_add, ti_sub, ti_mul, Int32.reduceToInt] at *; omega)))
                    · refine ok_gR (v := 227) hT rfl (hR 218 17 rfl) ?_
                      refine ok_s16 hT rfl (by decide) (by first | omega | decide | (simp only [Int32.le_iff_toInt_le, Int32.lt_iff_toInt_lt, ti_add, ti_sub, ti_mul, Int32.reduceToInt] at *; omega)) (by first | omega | decide | (simp only [Int32.le_iff_toInt_le, Int32.lt_iff_toInt_lt, ti_add, ti_sub, ti_mul, Int32.reduceToInt] at *; omega)) (fun σ121 eσ121 hOσ121 hT => ?_)
                      have hB : ZB σ121.1 := by first | exact HQ | exact ZB_s eσ121 hB
                      exact ih66_16 (x4_16 + 1, σ121) (show Tr [227, 228] σ0 σ121 ∧ (0 ≤ (x4_16 + 1).toInt) ∧ (ZB σ121.1) from ⟨hT, (by first | omega | decide | (simp only [Int32.le_iff_toInt_le, Int32.lt_iff_toInt_lt, ti_add, ti_sub, ti_mul, Int32.reduceToInt] at *; omega)), hB⟩) (show ((1024 : Int32).toInt - (x4_16 + 1).toInt).toNat < ((1024 : Int32).toInt - x4_16.toInt).toNat from (by first | omega | decide | (simp only [Int32.le_iff_toInt_le, Int32.lt_iff_toInt_lt, ti_add, ti_sub, ti_mul, Int32.reduceToInt] at *; omega)))
                · refine ok_if (fun hc122 => ?_) (fun hc122 => ?_)
                  · refine ok_gR (v := 227) hT rfl (hR 218 17 rfl) ?_
                    refine ok_s16 hT rfl (by decide) (by first | omega | decide | (simp only [Int32.le_iff_toInt_le, Int32.lt_iff_toInt_lt, ti_add, ti_sub, ti_mul, Int32.reduceToInt] at *; omega)) (by first | omega | decide | (simp only [Int32.le_iff_toInt_le, Int32.lt_iff_toInt_lt, ti_add, ti_sub, ti_mul, Int32.reduceToInt] at *; omega)) (fun σ124 eσ124 hOσ124 hT => ?_)
                    have hB : ZB σ124.1 := by first | exact HQ | exact ZB_s eσ124 hB
                    exact ih66_16 (x4_16 + 1, σ124) (show Tr [227, 228] σ0 σ124 ∧ (0 ≤ (x4_16 + 1).toInt) ∧ (ZB σ124.1) from ⟨hT, (by first | omega | decide | (simp only [Int32.le_iff_toInt_le, Int32.lt_iff_toInt_lt, ti_add, ti_sub, ti_mul, Int32.reduceToInt] at *; omega)), hB⟩) (show ((1024 : Int32).toInt - (x4_16 + 1).toInt).toNat < ((1024 : Int32).toInt - x4_16.toInt).toNat from (by first | omega | decide | (simp only [Int32.le_iff_toInt_le, Int32.lt_iff_toInt_lt, ti_add, ti_sub, ti_mul, Int32.reduceToInt] at *; omega)))
                  · refine ok_aIn rfl (by first | omega | decide | (simp only [Int32.le_iff_toInt_le, Int32.lt_iff_toInt_lt, ti_add, ti_sub, ti_mul, Int32.reduceToInt] at *; omega)) (by first | omega | decide | (simp only [Int32.le_iff_toInt_le, Int32.lt_iff_toInt_lt, ti_add, ti_sub, ti_mul, Int32.reduceToInt] at *; omega)) (fun v125 ev125 => ?_)
                    have zv125 : v125 = 0 ∨ v125 = 1 := by rw [ev125]; exact hB 220 rfl _
                    refine ok_if (fun hc126 => ?_) (fun hc126 => ?_)
                    · refine ok_gR (v := 227) hT rfl (hR 218 17 rfl) ?_
                      refine ok_s16 hT rfl (by decide) (by first | omega | decide | (simp only [Int32.le_iff_toInt_le, Int32.lt_iff_toInt_lt, ti_add, ti_sub, ti_mul, Int32.reduceToInt] at *; omega)) (by first | omega | decide | (simp only [Int32.le_iff_toInt_le, Int32.lt_iff_toInt_lt, ti_add, ti_sub, ti_mul, Int32.reduceToInt] at *; omega)) (fun σ128 eσ128 hOσ128 hT => ?_)
                      have hB : ZB σ128.1 := by first | exact HQ | exact ZB_s eσ128 hB
                      exact ih66_16 (x4_16 + 1, σ128) (show Tr [227, 228] σ0 σ128 ∧ (0 ≤ (x4_16 + 1).toInt) ∧ (ZB σ128.1) from ⟨hT, (by first | omega | decide | (simp only [Int32.le_iff_toInt_le, Int32.lt_iff_toInt_lt, ti_add, ti_sub, ti_mul, Int32.reduceToInt] at *; omega)), hB⟩) (show ((1024 : Int32).toInt - (x4_16 + 1).toInt).toNat < ((1024 : Int32).toInt - x4_16.toInt).toNat from (by first | omega | decide | (simp only [Int32.le_iff_toInt_le, Int32.lt_iff_toInt_lt, ti_add, ti_sub, ti_mul, Int32.reduceToInt] at *; omega)))
                    · refine ok_gR (v := 227) hT rfl (hR 218 17 rfl) ?_
                      refine ok_s16 hT rfl (by decide) (by first | omega | decide | (simp only [Int32.le_iff_toInt_le, Int32.lt_iff_toInt_lt, ti_add, ti_sub, ti_mul, Int32.reduceToInt] at *; omega)) (by first | omega | decide | (simp only [Int32.le_iff_toInt_le, Int32.lt_iff_toInt_lt, ti_add, ti_sub, ti_mul, Int32.reduceToInt] at *; omega)) (fun σ130 eσ130 hOσ130 hT => ?_)
                      have hB : ZB σ130.1 := by first | exact HQ | exact ZB_s eσ130 hB
                      exact ih66_16 (x4_16 + 1, σ130) (show Tr [227, 228] σ0 σ130 ∧ (0 ≤ (x4_16 + 1).toInt) ∧ (ZB σ130.1) from ⟨hT, (by first | omega | decide | (simp only [Int32.le_iff_toInt_le, Int32.lt_iff_toInt_lt, ti_add, ti_sub, ti_mul, Int32.reduceToInt] at *; omega)), hB⟩) (show ((1024 : Int32).toInt - (x4_16 + 1).toInt).toNat < ((1024 : Int32).toInt - x4_16.toInt).toNat from (by first | omega | decide | (simp only [Int32.le_iff_toInt_le, Int32.lt_iff_toInt_lt, ti_add, ti_sub, ti_mul, Int32.reduceToInt] at *; omega)))
      · rw [J_X12_turns_88.eq_1]
        refine ok_if (fun hc131 => ?_) (fun hc131 => ?_)
        · rw [J_X12_turns_99.eq_1]
          refine ok_if (fun hc132 => ?_) (fun hc132 => ?_)
          · refine ok_gR (v := 227) hT rfl (hR 218 17 rfl) ?_
            refine ok_s16 hT rfl (by decide) (by first | omega | decide | (simp only [Int32.le_iff_toInt_le, Int32.lt_iff_toInt_lt, ti_add, ti_sub, ti_mul, Int32.reduceToInt] at *; omega)) (by first | omega | decide | (simp only [Int32.le_iff_toInt_le, Int32.lt_iff_toInt_lt, ti_add, ti_sub, ti_mul, Int32.reduceToInt] at *; omega)) (fun σ134 eσ134 hOσ134 hT => ?_)
            have hB : ZB σ134.1 := by first | exact HQ | exact ZB_s eσ134 hB
            exact ih66_16 (x4_16 + 1, σ134) (show Tr [227, 228] σ0 σ134 ∧ (0 ≤ (x4_16 + 1).toInt) ∧ (ZB σ134.1) from ⟨hT, (by first | omega | decide | (simp only [Int32.le_iff_toInt_le, Int32.lt_iff_toInt_lt, ti_add, ti_sub, ti_mul, Int32.reduceToInt] at *; omega)), hB⟩) (show ((1024 : Int32).toInt - (x4_16 + 1).toInt).toNat < ((1024 : Int32).toInt - x4_16.toInt).toNat from (by first | omega | decide | (simp only [Int32.le_iff_toInt_le, Int32.lt_iff_toInt_lt, ti_add, ti_sub, ti_mul, Int32.reduceToInt] at *; omega)))
          · refine ok_aIn rfl (by first | omega | decide | (simp only [Int32.le_iff_toInt_le, Int32.lt_iff_toInt_lt, ti_add, ti_sub, ti_mul, Int32.reduceToInt] at *; omega)) (by first | omega | decide | (simp only [Int32.le_iff_toInt_le, Int32.lt_iff_toInt_lt, ti_add, ti_sub, ti_mul, Int32.reduceToInt] at *; omega)) (fun v135 ev135 => ?_)
            have zv135 : v135 = 0 ∨ v135 = 1 := by rw [ev135]; exact hB 220 rfl _
            refine ok_if (fun hc136 => ?_) (fun hc136 => ?_)
            · refine ok_gR (v := 227) hT rfl (hR 218 17 rfl) ?_
              refine ok_s16 hT rfl (by decide) (by first | omega | decide | (simp only [Int32.le_iff_toInt_le, Int32.lt_iff_toInt_lt, ti_add, ti_sub, ti_mul, Int32.reduceToInt] at *; omega)) (by first | omega | decide | (simp only [Int32.le_iff_toInt_le, Int32.lt_iff_toInt_lt, ti_add, ti_sub, ti_mul, Int32.reduceToInt] at *; omega)) (fun σ138 eσ138 hOσ138 hT => ?_)
              have hB : ZB σ138.1 := by first | exact HQ | exact ZB_s eσ138 hB
              exact ih66_16 (x4_16 + 1, σ138) (show Tr [227, 228] σ0 σ138 ∧ (0 ≤ (x4_16 + 1).toInt) ∧ (ZB σ138.1) from ⟨hT, (by first | omega | decide | (simp only [Int32.le_iff_toInt_le, Int32.lt_iff_toInt_lt, ti_add, ti_sub, ti_mul, Int32.reduceToInt] at *; omega)), hB⟩) (show ((1024 : Int32).toInt - (x4_16 + 1).toInt).toNat < ((1024 : Int32).toInt - x4_16.toInt).toNat from (by first | omega | decide | (simp only [Int32.le_iff_toInt_le, Int32.lt_iff_toInt_lt, ti_add, ti_sub, ti_mul, Int32.reduceToInt] at *; omega)))
            · refine ok_if (fun hc139 => ?_) (fun hc139 => ?_)
              · rw [J_X12_turns_127.eq_1]
                refine ok_gC rfl ?_
                refine ok_zbT (Q := fun V σ => V = 0 ∨ V = 1) hT (s_X12_isNested_220 hN (hR.tr hT) (hB) (by first | exact ha | (rw [hT.2 218 (by decide)]; exact ha)) (by first | omega | decide | (simp only [Int32.le_iff_toInt_le, Int32.lt_iff_toInt_lt, ti_add, ti_sub, ti_mul, Int32.reduceToInt] at *; omega))) (fun _ h9 => absurd h9 List.not_mem_nil) (fun v140 σ141 hOσ141 hT hqv140 => ?_)
                have hqv140 : v140 = 0 ∨ v140 = 1 := hqv140
                have hB : ZB σ141.1 := ZB.tr hOσ141 (by decide) hB
                refine ok_if (fun hc142 => ?_) (fun hc142 => ?_)
                · refine ok_gR (v := 227) hT rfl (hR 218 17 rfl) ?_
                  refine ok_s16 hT rfl (by decide) (by first | omega | decide | (simp only [Int32.le_iff_toInt_le, Int32.lt_iff_toInt_lt, ti_add, ti_sub, ti_mul, Int32.reduceToInt] at *; omega)) (by first | omega | decide | (simp only [Int32.le_iff_toInt_le, Int32.lt_iff_toInt_lt, ti_add, ti_sub, ti_mul, Int32.reduceToInt] at *; omega)) (fun σ144 eσ144 hOσ144 hT => ?_)
                  have hB : ZB σ144.1 := by first | exact HQ | exact ZB_s eσ144 hB
                  exact ih66_16 (x4_16 + 1, σ144) (show Tr [227, 228] σ0 σ144 ∧ (0 ≤ (x4_16 + 1).toInt) ∧ (ZB σ144.1) from ⟨hT, (by first | omega | decide | (simp only [Int32.le_iff_toInt_le, Int32.lt_iff_toInt_lt, ti_add, ti_sub, ti_mul, Int32.reduceToInt] at *; omega)), hB⟩) (show ((1024 : Int32).toInt - (x4_16 + 1).toInt).toNat < ((1024 : Int32).toInt - x4_16.toInt).toNat from (by first | omega | decide | (simp only [Int32.le_iff_toInt_le, Int32.lt_iff_toInt_lt, ti_add, ti_sub, ti_mul, Int32.reduceToInt] at *; omega)))
                · refine ok_gR (v := 227) hT rfl (hR 218 17 rfl) ?_
                  refine ok_s16 hT rfl (by decide) (by first | omega | decide | (simp only [Int32.le_iff_toInt_le, Int32.lt_iff_toInt_lt, ti_add, ti_sub, ti_mul, Int32.reduceToInt] at *; omega)) (by first | omega | decide | (simp only [Int32.le_iff_toInt_le, Int32.lt_iff_toInt_lt, ti_add, ti_sub, ti_mul, Int32.reduceToInt] at *; omega)) (fun σ146 eσ146 hOσ146 hT => ?_)
                  have hB : ZB σ146.1 := by first | exact HQ | exact ZB_s eσ146 hB
                  exact ih66_16 (x4_16 + 1, σ146) (show Tr [227, 228] σ0 σ146 ∧ (0 ≤ (x4_16 + 1).toInt) ∧ (ZB σ146.1) from ⟨hT, (by first | omega | decide | (simp only [Int32.le_iff_toInt_le, Int32.lt_iff_toInt_lt, ti_add, ti_sub, ti_mul, Int32.reduceToInt] at *; omega)), hB⟩) (show ((1024 : Int32).toInt - (x4_16 + 1).toInt).toNat < ((1024 : Int32).toInt - x4_16.toInt).toNat from (by first | omega | decide | (simp only [Int32.le_iff_toInt_le, Int32.lt_iff_toInt_lt, ti_add, ti_sub, ti_mul, Int32.reduceToInt] at *; omega)))
              · rw [J_X12_turns_127.eq_1]
                refine ok_gC rfl ?_
                refine ok_zbT (Q := fun V σ => V = 0 ∨ V = 1) hT (s_X12_isNested_220 hN (hR.tr hT) (hB) (by first | exact ha | (rw [hT.2 218 (by decide)]; exact ha)) (by first | omega | decide | (simp only [Int32.le_iff_toInt_le, Int32.lt_iff_toInt_lt, ti_add, ti_sub, ti_mul, Int32.reduceToInt] at *; omega))) (fun _ h9 => absurd h9 List.not_mem_nil) (fun v147 σ148 hOσ148 hT hqv147 => ?_)
                have hqv147 : v147 = 0 ∨ v147 = 1 := hqv147
                have hB : ZB σ148.1 := ZB.tr hOσ148 (by decide) hB
                refine ok_if (fun hc149 => ?_) (fun hc149 => ?_)
                · refine ok_gR (v := 227) hT rfl (hR 218 17 rfl) ?_
                  refine ok_s16 hT rfl (by decide) (by first | omega | decide | (simp only [Int32.le_iff_toInt_le, Int32.lt_iff_toInt_lt, ti_add, ti_sub, ti_mul, Int32.reduceToInt] at *; omega)) (by first | omega | decide | (simp only [Int32.le_iff_toInt_le, Int32.lt_iff_toInt_lt, ti_add, ti_sub, ti_mul, Int32.reduceToInt] at *; omega)) (fun σ151 eσ151 hOσ151 hT => ?_)
                  have hB : ZB σ151.1 := by first | exact HQ | exact ZB_s eσ151 hB
                  exact ih66_16 (x4_16 + 1, σ151) (show Tr [227, 228] σ0 σ151 ∧ (0 ≤ (x4_16 + 1).toInt) ∧ (ZB σ151.1) from ⟨hT, (by first | omega | decide | (simp only [Int32.le_iff_toInt_le, Int32.lt_iff_toInt_lt, ti_add, ti_sub, ti_mul, Int32.reduceToInt] at *; omega)), hB⟩) (show ((1024 : Int32).toInt - (x4_16 + 1).toInt).toNat < ((1024 : Int32).toInt - x4_16.toInt).toNat from (by first | omega | decide | (simp only [Int32.le_iff_toInt_le, Int32.lt_iff_toInt_lt, ti_add, ti_sub, ti_mul, Int32.reduceToInt] at *; omega)))
                · refine ok_gR (v := 227) hT rfl (hR 218 17 rfl) ?_
                  refine ok_s16 hT rfl (by decide) (by first | omega | decide | (simp only [Int32.le_iff_toInt_le, Int32.lt_iff_toInt_lt, ti_add, ti_sub, ti_mul, Int32.reduceToInt] at *; omega)) (by first | omega | decide | (simp only [Int32.le_iff_toInt_le, Int32.lt_iff_toInt_lt, ti_add, ti_sub, ti_mul, Int32.reduceToInt] at *; omega)) (fun σ153 eσ153 hOσ153 hT => ?_)
                  have hB : ZB σ153.1 := by first | exact HQ | exact ZB_s eσ153 hB
                  exact ih66_16 (x4_16 + 1, σ153) (show Tr [227, 228] σ0 σ153 ∧ (0 ≤ (x4_16 + 1).toInt) ∧ (ZB σ153.1) from ⟨hT, (by first | omega | decide | (simp only [Int32.le_iff_toInt_le, Int32.lt_iff_toInt_lt, ti_add, ti_sub, ti_mul, Int32.reduceToInt] at *; omega)), hB⟩) (show ((1024 : Int32).toInt - (x4_16 + 1).toInt).toNat < ((1024 : Int32).toInt - x4_16.toInt).toNat from (by first | omega | decide | (simp only [Int32.le_iff_toInt_le, Int32.lt_iff_toInt_lt, ti_add, ti_sub, ti_mul, Int32.reduceToInt] at *; omega)))
        · refine ok_if (fun hc154 => ?_) (fun hc154 => ?_)
          · rw [J_X12_turns_99.eq_1]
            refine ok_if (fun hc155 => ?_) (fun hc155 => ?_)
            · refine ok_gR (v := 227) hT rfl (hR 218 17 rfl) ?_
              refine ok_s16 hT rfl (by decide) (by first | omega | decide | (simp only [Int32.le_iff_toInt_le, Int32.lt_iff_toInt_lt, ti_add, ti_sub, ti_mul, Int32.reduceToInt] at *; omega)) (by first | omega | decide | (simp only [Int32.le_iff_toInt_le, Int32.lt_iff_toInt_lt, ti_add, ti_sub, ti_mul, Int32.reduceToInt] at *; omega)) (fun σ157 eσ157 hOσ157 hT => ?_)
              have hB : ZB σ157.1 := by first | exact HQ | exact ZB_s eσ157 hB
              exact ih66_16 (x4_16 + 1, σ157) (show Tr [227, 228] σ0 σ157 ∧ (0 ≤ (x4_16 + 1).toInt) ∧ (ZB σ157.1) from ⟨hT, (by first | omega | decide | (simp only [Int32.le_iff_toInt_le, Int32.lt_iff_toInt_lt, ti_add, ti_sub, ti_mul, Int32.reduceToInt] at *; omega)), hB⟩) (show ((1024 : Int32).toInt - (x4_16 + 1).toInt).toNat < ((1024 : Int32).toInt - x4_16.toInt).toNat from (by first | omega | decide | (simp only [Int32.le_iff_toInt_le, Int32.lt_iff_toInt_lt, ti_add, ti_sub, ti_mul, Int32.reduceToInt] at *; omega)))
            · refine ok_aIn rfl (by first | omega | decide | (simp only [Int32.le_iff_toInt_le, Int32.lt_iff_toInt_lt, ti_add, ti_sub, ti_mul, Int32.reduceToInt] at *; omega)) (by first | omega | decide | (simp only [Int32.le_iff_toInt_le, Int32.lt_iff_toInt_lt, ti_add, ti_sub, ti_mul, Int32.reduceToInt] at *; omega)) (fun v158 ev158 => ?_)
              have zv158 : v158 = 0 ∨ v158 = 1 := by rw [ev158]; exact hB 220 rfl _
              refine ok_if (fun hc159 => ?_) (fun hc159 => ?_)
              · refine ok_gR (v := 227) hT rfl (hR 218 17 rfl) ?_
                refine ok_s16 hT rfl (by decide) (by first | omega | decide | (simp only [Int32.le_iff_toInt_le, Int32.lt_iff_toInt_lt, ti_add, ti_sub, ti_mul, Int32.reduceToInt] at *; omega)) (by first | omega | decide | (simp only [Int32.le_iff_toInt_le, Int32.lt_iff_toInt_lt, ti_add, ti_sub, ti_mul, Int32.reduceToInt] at *; omega)) (fun σ161 eσ161 hOσ161 hT => ?_)
                have hB : ZB σ161.1 := by first | exact HQ | exact ZB_s eσ161 hB
                exact ih66_16 (x4_16 + 1, σ161) (show Tr [227, 228] σ0 σ161 ∧ (0 ≤ (x4_16 + 1).toInt) ∧ (ZB σ161.1) from ⟨hT, (by first | omega | decide | (simp only [Int32.le_iff_toInt_le, Int32.lt_iff_toInt_lt, ti_add, ti_sub, ti_mul, Int32.reduceToInt] at *; omega)), hB⟩) (show ((1024 : Int32).toInt - (x4_16 + 1).toInt).toNat < ((1024 : Int32).toInt - x4_16.toInt).toNat from (by first | omega | decide | (simp only [Int32.le_iff_toInt_le, Int32.lt_iff_toInt_lt, ti_add, ti_sub, ti_mul, Int32.reduceToInt] at *; omega)))
              · refine ok_if (fun hc162 => ?_) (fun hc162 => ?_)
                · rw [J_X12_turns_127.eq_1]
                  refine ok_gC rfl ?_
                  refine ok_zbT (Q := fun V σ => V = 0 ∨ V = 1) hT (s_X12_isNested_220 hN (hR.tr hT) (hB) (by first | exact ha | (rw [hT.2 218 (by decide)]; exact ha)) (by first | omega | decide | (simp only [Int32.le_iff_toInt_le, Int32.lt_iff_toInt_lt, ti_add, ti_sub, ti_mul, Int32.reduceToInt] at *; omega))) (fun _ h9 => absurd h9 List.not_mem_nil) (fun v163 σ164 hOσ164 hT hqv163 => ?_)
                  have hqv163 : v163 = 0 ∨ v163 = 1 := hqv163
                  have hB : ZB σ164.1 := ZB.tr hOσ164 (by decide) hB
                  refine ok_if (fun hc165 => ?_) (fun hc165 => ?_)
                  · refine ok_gR (v := 227) hT rfl (hR 218 17 rfl) ?_
                    refine ok_s16 hT rfl (by decide) (by first | omega | decide | (simp only [Int32.le_iff_toInt_le, Int32.lt_iff_toInt_lt, ti_add, ti_sub, ti_mul, Int32.reduceToInt] at *; omega)) (by first | omega | decide | (simp only [Int32.le_iff_toInt_le, Int32.lt_iff_toInt_lt, ti_add, ti_sub, ti_mul, Int32.reduceToInt] at *; omega)) (fun σ167 eσ167 hOσ167 hT => ?_)
                    have hB : ZB σ167.1 := by first | exact HQ | exact ZB_s eσ167 hB
                    exact ih66_16 (x4_16 + 1, σ167) (show Tr [227, 228] σ0 σ167 ∧ (0 ≤ (x4_16 + 1).toInt) ∧ (ZB σ167.1) from ⟨hT, (by first | omega | decide | (simp only [Int32.le_iff_toInt_le, Int32.lt_iff_toInt_lt, ti_add, ti_sub, ti_mul, Int32.reduceToInt] at *; omega)), hB⟩) (show ((1024 : Int32).toInt - (x4_16 + 1).toInt).toNat < ((1024 : Int32).toInt - x4_16.toInt).toNat from (by first | omega | decide | (simp only [Int32.le_iff_toInt_le, Int32.lt_iff_toInt_lt, ti_add, ti_sub, ti_mul, Int32.reduceToInt] at *; omega)))
                  · refine ok_gR (v := 227) hT rfl (hR 218 17 rfl) ?_
                    refine ok_s16 hT rfl (by decide) (by first | omega | decide | (simp only [Int32.le_iff_toInt_le, Int32.lt_iff_toInt_lt, ti_add, ti_sub, ti_mul, Int32.reduceToInt] at *; omega)) (by first | omega | decide | (simp only [Int32.le_iff_toInt_le, Int32.lt_iff_toInt_lt, ti_add, ti_sub, ti_mul, Int32.reduceToInt] at *; omega)) (fun σ169 eσ169 hOσ169 hT => ?_)
                    have hB : ZB σ169.1 := by first | exact HQ | exact ZB_s eσ169 hB
                    exact ih66_16 (x4_16 + 1, σ169) (show Tr [227, 228] σ0 σ169 ∧ (0 ≤ (x4_16 + 1).toInt) ∧ (ZB σ169.1) from ⟨hT, (by first | omega | decide | (simp only [Int32.le_iff_toInt_le, Int32.lt_iff_toInt_lt, ti_add, ti_sub, ti_mul, Int32.reduceToInt] at *; omega)), hB⟩) (show ((1024 : Int32).toInt - (x4_16 + 1).toInt).toNat < ((1024 : Int32).toInt - x4_16.toInt).toNat from (by first | omega | decide | (simp only [Int32.le_iff_toInt_le, Int32.lt_iff_toInt_lt, ti_add, ti_sub, ti_mul, Int32.reduceToInt] at *; omega)))
                · rw [J_X12_turns_127.eq_1]
                  refine ok_gC rfl ?_
                  refine ok_zbT (Q := fun V σ => V = 0 ∨ V = 1) hT (s_X12_isNested_220 hN (hR.tr hT) (hB) (by first | exact ha | (rw [hT.2 218 (by decide)]; exact ha)) (by first | omega | decide | (simp only [Int32.le_iff_toInt_le, Int32.lt_iff_toInt_lt, ti_add, ti_sub, ti_mul, Int32.reduceToInt] at *; omega))) (fun _ h9 => absurd h9 List.not_mem_nil) (fun v170 σ171 hOσ171 hT hqv170 => ?_)
                  have hqv170 : v170 = 0 ∨ v170 = 1 := hqv170
                  have hB : ZB σ171.1 := ZB.tr hOσ171 (by decide) hB
                  refine ok_if (fun hc172 => ?_) (fun hc172 => ?_)
                  · refine ok_gR (v := 227) hT rfl (hR 218 17 rfl) ?_
                    refine ok_s16 hT rfl (by decide) (by first | omega | decide | (simp only [Int32.le_iff_toInt_le, Int32.lt_iff_toInt_lt, ti_add, ti_sub, ti_mul, Int32.reduceToInt] at *; omega)) (by first | omega | decide | (simp only [Int32.le_iff_toInt_le, Int32.lt_iff_toInt_lt, ti_add, ti_sub, ti_mul, Int32.reduceToInt] at *; omega)) (fun σ174 eσ174 hOσ174 hT => ?_)
                    have hB : ZB σ174.1 := by first | exact HQ | exact ZB_s eσ174 hB
                    exact ih66_16 (x4_16 + 1, σ174) (show Tr [227, 228] σ0 σ174 ∧ (0 ≤ (x4_16 + 1).toInt) ∧ (ZB σ174.1) from ⟨hT, (by first | omega | decide | (simp only [Int32.le_iff_toInt_le, Int32.lt_iff_toInt_lt, ti_add, ti_sub, ti_mul, Int32.reduceToInt] at *; omega)), hB⟩) (show ((1024 : Int32).toInt - (x4_16 + 1).toInt).toNat < ((1024 : Int32).toInt - x4_16.toInt).toNat from (by first | omega | decide | (simp only [Int32.le_iff_toInt_le, Int32.lt_iff_toInt_lt, ti_add, ti_sub, ti_mul, Int32.reduceToInt] at *; omega)))
                  · refine ok_gR (v := 227) hT rfl (hR 218 17 rfl) ?_
                    refine ok_s16 hT rfl (by decide) (by first | omega | decide | (simp only [Int32.le_iff_toInt_le, Int32.lt_iff_toInt_lt, ti_add, ti_sub, ti_mul, Int32.reduceToInt] at *; omega)) (by first | omega | decide | (simp only [Int32.le_iff_toInt_le, Int32.lt_iff_toInt_lt, ti_add, ti_sub, ti_mul, Int32.reduceToInt] at *; omega)) (fun σ176 eσ176 hOσ176 hT => ?_)
                    have hB : ZB σ176.1 := by first | exact HQ | exact ZB_s eσ176 hB
                    exact ih66_16 (x4_16 + 1, σ176) (show Tr [227, 228] σ0 σ176 ∧ (0 ≤ (x4_16 + 1).toInt) ∧ (ZB σ176.1) from ⟨hT, (by first | omega | decide | (simp only [Int32.le_iff_toInt_le, Int32.lt_iff_toInt_lt, ti_add, ti_sub, ti_mul, Int32.reduceToInt] at *; omega)), hB⟩) (show ((1024 : Int32).toInt - (x4_16 + 1).toInt).toNat < ((1024 : Int32).toInt - x4_16.toInt).toNat from (by first | omega | decide | (simp only [Int32.le_iff_toInt_le, Int32.lt_iff_toInt_lt, ti_add, ti_sub, ti_mul, Int32.reduceToInt] at *; omega)))
          · refine ok_if (fun hc177 => ?_) (fun hc177 => ?_)
            · refine ok_if (fun hc178 => ?_) (fun hc178 => ?_)
              · refine ok_gR (v := 227) hT rfl (hR 218 17 rfl) ?_
                refine ok_s16 hT rfl (by decide) (by first | omega | decide | (simp only [Int32.le_iff_toInt_le, Int32.lt_iff_toInt_lt, ti_add, ti_sub, ti_mul, Int32.reduceToInt] at *; omega)) (by first | omega | decide | (simp only [Int32.le_iff_toInt_le, Int32.lt_iff_toInt_lt, ti_add, ti_sub, ti_mul, Int32.reduceToInt] at *; omega)) (fun σ180 eσ180 hOσ180 hT => ?_)
                have hB : ZB σ180.1 := by first | exact HQ | exact ZB_s eσ180 hB
                exact ih66_16 (x4_16 + 1, σ180) (show Tr [227, 228] σ0 σ180 ∧ (0 ≤ (x4_16 + 1).toInt) ∧ (ZB σ180.1) from ⟨hT, (by first | omega | decide | (simp only [Int32.le_iff_toInt_le, Int32.lt_iff_toInt_lt, ti_add, ti_sub, ti_mul, Int32.reduceToInt] at *; omega)), hB⟩) (show ((1024 : Int32).toInt - (x4_16 + 1).toInt).toNat < ((1024 : Int32).toInt - x4_16.toInt).toNat from (by first | omega | decide | (simp only [Int32.le_iff_toInt_le, Int32.lt_iff_toInt_lt, ti_add, ti_sub, ti_mul, Int32.reduceToInt] at *; omega)))
              · refine ok_aIn rfl (by first | omega | decide | (simp only [Int32.le_iff_toInt_le, Int32.lt_iff_toInt_lt, ti_add, ti_sub, ti_mul, Int32.reduceToInt] at *; omega)) (by first | omega | decide | (simp only [Int32.le_iff_toInt_le, Int32.lt_iff_toInt_lt, ti_add, ti_sub, ti_mul, Int32.reduceToInt] at *; omega)) (fun v181 ev181 => ?_)
                have zv181 : v181 = 0 ∨ v181 = 1 := by rw [ev181]; exact hB 220 rfl _
                refine ok_if (fun hc182 => ?_) (fun hc182 => ?_)
                · refine ok_gR (v := 227) hT rfl (hR 218 17 rfl) ?_
                  refine ok_s16 hT rfl (by decide) (by first | omega | decide | (simp only [Int32.le_iff_toInt_le, Int32.lt_iff_toInt_lt, ti_add, ti_sub, ti_mul, Int32.reduceToInt] at *; omega)) (by first | omega | decide | (simp only [Int32.le_iff_toInt_le, Int32.lt_iff_toInt_lt, ti_add, ti_sub, ti_mul, Int32.reduceToInt] at *; omega)) (fun σ184 eσ184 hOσ184 hT => ?_)
                  have hB : ZB σ184.1 := by first | exact HQ | exact ZB_s eσ184 hB
                  exact ih66_16 (x4_16 + 1, σ184) (show Tr [227, 228] σ0 σ184 ∧ (0 ≤ (x4_16 + 1).toInt) ∧ (ZB σ184.1) from ⟨hT, (by first | omega | decide | (simp only [Int32.le_iff_toInt_le, Int32.lt_iff_toInt_lt, ti_add, ti_sub, ti_mul, Int32.reduceToInt] at *; omega)), hB⟩) (show ((1024 : Int32).toInt - (x4_16 + 1).toInt).toNat < ((1024 : Int32).toInt - x4_16.toInt).toNat from (by first | omega | decide | (simp only [Int32.le_iff_toInt_le, Int32.lt_iff_toInt_lt, ti_add, ti_sub, ti_mul, Int32.reduceToInt] at *; omega)))
                · refine ok_gR (v := 227) hT rfl (hR 218 17 rfl) ?_
                  refine ok_s16 hT rfl (by decide) (by first | omega | decide | (simp only [Int32.le_iff_toInt_le, Int32.lt_iff_toInt_lt, ti_add, ti_sub, ti_mul, Int32.reduceToInt] at *; omega)) (by first | omega | decide | (simp only [Int32.le_iff_toInt_le, Int32.lt_iff_toInt_lt, ti_add, ti_sub, ti_mul, Int32.reduceToInt] at *; omega)) (fun σ186 eσ186 hOσ186 hT => ?_)
                  have hB : ZB σ186.1 := by first | exact HQ | exact ZB_s eσ186 hB
                  exact ih66_16 (x4_16 + 1, σ186) (show Tr [227, 228] σ0 σ186 ∧ (0 ≤ (x4_16 + 1).toInt) ∧ (ZB σ186.1) from ⟨hT, (by first | omega | decide | (simp only [Int32.le_iff_toInt_le, Int32.lt_iff_toInt_lt, ti_add, ti_sub, ti_mul, Int32.reduceToInt] at *; omega)), hB⟩) (show ((1024 : Int32).toInt - (x4_16 + 1).toInt).toNat < ((1024 : Int32).toInt - x4_16.toInt).toNat from (by first | omega | decide | (simp only [Int32.le_iff_toInt_le, Int32.lt_iff_toInt_lt, ti_add, ti_sub, ti_mul, Int32.reduceToInt] at *; omega)))
            · refine ok_if (fun hc187 => ?_) (fun hc187 => ?_)
              · rw [J_X12_turns_182.eq_1]
                refine ok_if (fun hc188 => ?_) (fun hc188 => ?_)
                · refine ok_gR (v := 227) hT rfl (hR 218 17 rfl) ?_
                  refine ok_s16 hT rfl (by decide) (by first | omega | decide | (simp only [Int32.le_iff_toInt_le, Int32.lt_iff_toInt_lt, ti_add, ti_sub, ti_mul, Int32.reduceToInt] at *; omega)) (by first | omega | decide | (simp only [Int32.le_iff_toInt_le, Int32.lt_iff_toInt_lt, ti_add, ti_sub, ti_mul, Int32.reduceToInt] at *; omega)) (fun σ190 eσ190 hOσ190 hT => ?_)
                  have hB : ZB σ190.1 := by first | exact HQ | exact ZB_s eσ190 hB
                  exact ih66_16 (x4_16 + 1, σ190) (show Tr [227, 228] σ0 σ190 ∧ (0 ≤ (x4_16 + 1).toInt) ∧ (ZB σ190.1) from ⟨hT, (by first | omega | decide | (simp only [Int32.le_iff_toInt_le, Int32.lt_iff_toInt_lt, ti_add, ti_sub, ti_mul, Int32.reduceToInt] at *; omega)), hB⟩) (show ((1024 : Int32).toInt - (x4_16 + 1).toInt).toNat < ((1024 : Int32).toInt - x4_16.toInt).toNat from (by first | omega | decide | (simp only [Int32.le_iff_toInt_le, Int32.lt_iff_toInt_lt, ti_add, ti_sub, ti_mul, Int32.reduceToInt] at *; omega)))
                · refine ok_aIn rfl (by first | omega | decide | (simp only [Int32.le_iff_toInt_le, Int32.lt_iff_toInt_lt, ti_add, ti_sub, ti_mul, Int32.reduceToInt] at *; omega)) (by first | omega | decide | (simp only [Int32.le_iff_toInt_le, Int32.lt_iff_toInt_lt, ti_add, ti_sub, ti_mul, Int32.reduceToInt] at *; omega)) (fun v191 ev191 => ?_)
                  have zv191 : v191 = 0 ∨ v191 = 1 := by rw [ev191]; exact hB 220 rfl _
                  refine ok_if (fun hc192 => ?_) (fun hc192 => ?_)
                  · refine ok_if (fun hc193 => ?_) (fun hc193 => ?_)
                    · rw [J_X12_turns_211.eq_1]
                      refine ok_gC rfl ?_
                      refine ok_zbT (Q := fun V σ => V = 0 ∨ V = 1) hT (s_X12_isNested_220 hN (hR.tr hT) (hB) (by first | exact ha | (rw [hT.2 218 (by decide)]; exact ha)) (by first | omega | decide | (simp only [Int32.le_iff_toInt_le, Int32.lt_iff_toInt_lt, ti_add, ti_sub, ti_mul, Int32.reduceToInt] at *; omega))) (fun _ h9 => absurd h9 List.not_mem_nil) (fun v194 σ195 hOσ195 hT hqv194 => ?_)
                      have hqv194 : v194 = 0 ∨ v194 = 1 := hqv194
                      have hB : ZB σ195.1 := ZB.tr hOσ195 (by decide) hB
                      refine ok_if (fun hc196 => ?_) (fun hc196 => ?_)
                      · refine ok_gR (v := 227) hT rfl (hR 218 17 rfl) ?_
                        refine ok_s16 hT rfl (by decide) (by first | omega | decide | (simp only [Int32.le_iff_toInt_le, Int32.lt_iff_toInt_lt, ti_add, ti_sub, ti_mul, Int32.reduceToInt] at *; omega)) (by first | omega | decide | (simp only [Int32.le_iff_toInt_le, Int32.lt_iff_toInt_lt, ti_add, ti_sub, ti_mul, Int32.reduceToInt] at *; omega)) (fun σ198 eσ198 hOσ198 hT => ?_)
                        have hB : ZB σ198.1 := by first | exact HQ | exact ZB_s eσ198 hB
                        exact ih66_16 (x4_16 + 1, σ198) (show Tr [227, 228] σ0 σ198 ∧ (0 ≤ (x4_16 + 1).toInt) ∧ (ZB σ198.1) from ⟨hT, (by first | omega | decide | (simp only [Int32.le_iff_toInt_le, Int32.lt_iff_toInt_lt, ti_add, ti_sub, ti_mul, Int32.reduceToInt] at *; omega)), hB⟩) (show ((1024 : Int32).toInt - (x4_16 + 1).toInt).toNat < ((1024 : Int32).toInt - x4_16.toInt).toNat from (by first | omega | decide | (simp only [Int32.le_iff_toInt_le, Int32.lt_iff_toInt_lt, ti_add, ti_sub, ti_mul, Int32.reduceToInt] at *; omega)))
                      · refine ok_gR (v := 227) hT rfl (hR 218 17 rfl) ?_
                        refine ok_s16 hT rfl (by decide) (by first | omega | decide | (simp only [Int32.le_iff_toInt_le, Int32.lt_iff_toInt_lt, ti_add, ti_sub, ti_mul, Int32.reduceToInt] at *; omega)) (by first | omega | decide | (simp only [Int32.le_iff_toInt_le, Int32.lt_iff_toInt_lt, ti_add, ti_sub, ti_mul, Int32.reduceToInt] at *; omega)) (fun σ200 eσ200 hOσ200 hT => ?_)
                        have hB : ZB σ200.1 := by first | exact HQ | exact ZB_s eσ200 hB
                        exact ih66_16 (x4_16 + 1, σ200) (show Tr [227, 228] σ0 σ200 ∧ (0 ≤ (x4_16 + 1).toInt) ∧ (ZB σ200.1) from ⟨hT, (by first | omega | decide | (simp only [Int32.le_iff_toInt_le, Int32.lt_iff_toInt_lt, ti_add, ti_sub, ti_mul, Int32.reduceToInt] at *; omega)), hB⟩) (show ((1024 : Int32).toInt - (x4_16 + 1).toInt).toNat < ((1024 : Int32).toInt - x4_16.toInt).toNat from (by first | omega | decide | (simp only [Int32.le_iff_toInt_le, Int32.lt_iff_toInt_lt, ti_add, ti_sub, ti_mul, Int32.reduceToInt] at *; omega)))
                    · rw [J_X12_turns_211.eq_1]
                      refine ok_gC rfl ?_
                      refine ok_zbT (Q := fun V σ => V = 0 ∨ V = 1) hT (s_X12_isNested_220 hN (hR.tr hT) (hB) (by first | exact ha | (rw [hT.2 218 (by decide)]; exact ha)) (by first | omega | decide | (simp only [Int32.le_iff_toInt_le, Int32.lt_iff_toInt_lt, ti_add, ti_sub, ti_mul, Int32.reduceToInt] at *; omega))) (fun _ h9 => absurd h9 List.not_mem_nil) (fun v201 σ202 hOσ202 hT hqv201 => ?_)
                      have hqv201 : v201 = 0 ∨ v201 = 1 := hqv201
                      have hB : ZB σ202.1 := ZB.tr hOσ202 (by decide) hB
                      refine ok_if (fun hc203 => ?_) (fun hc203 => ?_)
                      · refine ok_gR (v := 227) hT rfl (hR 218 17 rfl) ?_
                        refine ok_s16 hT rfl (by decide) (by first | omega | decide | (simp only [Int32.le_iff_toInt_le, Int32.lt_iff_toInt_lt, ti_add, ti_sub, ti_mul, Int32.reduceToInt] at *; omega)) (by first | omega | decide | (simp only [Int32.le_iff_toInt_le, Int32.lt_iff_toInt_lt, ti_add, ti_sub, ti_mul, Int32.reduceToInt] at *; omega)) (fun σ205 eσ205 hOσ205 hT => ?_)
                        have hB : ZB σ205.1 := by first | exact HQ | exact ZB_s eσ205 hB
                        exact ih66_16 (x4_16 + 1, σ205) (show Tr [227, 228] σ0 σ205 ∧ (0 ≤ (x4_16 + 1).toInt) ∧ (ZB σ205.1) from ⟨hT, (by first | omega | decide | (simp only [Int32.le_iff_toInt_le, Int32.lt_iff_toInt_lt, ti_add, ti_sub, ti_mul, Int32.reduceToInt] at *; omega)), hB⟩) (show ((1024 : Int32).toInt - (x4_16 + 1).toInt).toNat < ((1024 : Int32).toInt - x4_16.toInt).toNat from (by first | omega | decide | (simp only [Int32.le_iff_toInt_le, Int32.lt_iff_toInt_lt, ti_add, ti_sub, ti_mul, Int32.reduceToInt] at *; omega)))
                      · refine ok_gR (v := 227) hT rfl (hR 218 17 rfl) ?_
                        refine ok_s16 hT rfl (by decide) (by first | omega | decide | (simp only [Int32.le_iff_toInt_le, Int32.lt_iff_toInt_lt, ti_add, ti_sub, ti_mul, Int32.reduceToInt] at *; omega)) (by first | omega | decide | (simp only [Int32.le_iff_toInt_le, Int32.lt_iff_toInt_lt, ti_add, ti_sub, ti_mul, Int32.reduceToInt] at *; omega)) (fun σ207 eσ207 hOσ207 hT => ?_)
                        have hB : ZB σ207.1 := by first | exact HQ | exact ZB_s eσ207 hB
                        exact ih66_16 (x4_16 + 1, σ207) (show Tr [227, 228] σ0 σ207 ∧ (0 ≤ (x4_16 + 1).toInt) ∧ (ZB σ207.1) from ⟨hT, (by first | omega | decide | (simp only [Int32.le_iff_toInt_le, Int32.lt_iff_toInt_lt, ti_add, ti_sub, ti_mul, Int32.reduceToInt] at *; omega)), hB⟩) (show ((1024 : Int32).toInt - (x4_16 + 1).toInt).toNat < ((1024 : Int32).toInt - x4_16.toInt).toNat from (by first | omega | decide | (simp only [Int32.le_iff_toInt_le, Int32.lt_iff_toInt_lt, ti_add, ti_sub, ti_mul, Int32.reduceToInt] at *; omega)))
                  · refine ok_gR (v := 227) hT rfl (hR 218 17 rfl) ?_
                    refine ok_s16 hT rfl (by decide) (by first | omega | decide | (simp only [Int32.le_iff_toInt_le, Int32.lt_iff_toInt_lt, ti_add, ti_sub, ti_mul, Int32.reduceToInt] at *; omega)) (by first | omega | decide | (simp only [Int32.le_iff_toInt_le, Int32.lt_iff_toInt_lt, ti_add, ti_sub, ti_mul, Int32.reduceToInt] at *; omega)) (fun σ209 eσ209 hOσ209 hT => ?_)
                    have hB : ZB σ209.1 := by first | exact HQ | exact ZB_s eσ209 hB
                    exact ih66_16 (x4_16 + 1, σ209) (show Tr [227, 228] σ0 σ209 ∧ (0 ≤ (x4_16 + 1).toInt) ∧ (ZB σ209.1) from ⟨hT, (by first | omega | decide | (simp only [Int32.le_iff_toInt_le, Int32.lt_iff_toInt_lt, ti_add, ti_sub, ti_mul, Int32.reduceToInt] at *; omega)), hB⟩) (show ((1024 : Int32).toInt - (x4_16 + 1).toInt).toNat < ((1024 : Int32).toInt - x4_16.toInt).toNat from (by first | omega | decide | (simp only [Int32.le_iff_toInt_le, Int32.lt_iff_toInt_lt, ti_add, ti_sub, ti_mul, Int32.reduceToInt] at *; omega)))
              · refine ok_if (fun hc210 => ?_) (fun hc210 => ?_)
                · rw [J_X12_turns_182.eq_1]
                  refine ok_if (fun hc211 => ?_) (fun hc211 => ?_)
                  · refine ok_gR (v := 227) hT rfl (hR 218 17 rfl) ?_
                    refine ok_s16 hT rfl (by decide) (by first | omega | decide | (simp only [Int32.le_iff_toInt_le, Int32.lt_iff_toInt_lt, ti_add, ti_sub, ti_mul, Int32.reduceToInt] at *; omega)) (by first | omega | decide | (simp only [Int32.le_iff_toInt_le, Int32.lt_iff_toInt_lt, ti_add, ti_sub, ti_mul, Int32.reduceToInt] at *; omega)) (fun σ213 eσ213 hOσ213 hT => ?_)
                    have hB : ZB σ213.1 := by first | exact HQ | exact ZB_s eσ213 hB
                    exact ih66_16 (x4_16 + 1, σ213) (show Tr [227, 228] σ0 σ213 ∧ (0 ≤ (x4_16 + 1).toInt) ∧ (ZB σ213.1) from ⟨hT, (by first | omega | decide | (simp only [Int32.le_iff_toInt_le, Int32.lt_iff_toInt_lt, ti_add, ti_sub, ti_mul, Int32.reduceToInt] at *; omega)), hB⟩) (show ((1024 : Int32).toInt - (x4_16 + 1).toInt).toNat < ((1024 : Int32).toInt - x4_16.toInt).toNat from (by first | omega | decide | (simp only [Int32.le_iff_toInt_le, Int32.lt_iff_toInt_lt, ti_add, ti_sub, ti_mul, Int32.reduceToInt] at *; omega)))
                  · refine ok_aIn rfl (by first | omega | decide | (simp only [Int32.le_iff_toInt_le, Int32.lt_iff_toInt_lt, ti_add, ti_sub, ti_mul, Int32.reduceToInt] at *; omega)) (by first | omega | decide | (simp only [Int32.le_iff_toInt_le, Int32.lt_iff_toInt_lt, ti_add, ti_sub, ti_mul, Int32.reduceToInt] at *; omega)) (fun v214 ev214 => ?_)
                    have zv214 : v214 = 0 ∨ v214 = 1 := by rw [ev214]; exact hB 220 rfl _
                    refine ok_if (fun hc215 => ?_) (fun hc215 => ?_)
                    · refine ok_if (fun hc216 => ?_) (fun hc216 => ?_)
                      · rw [J_X12_turns_211.eq_1]
                        refine ok_gC rfl ?_
                        refine ok_zbT (Q := fun V σ => V = 0 ∨ V = 1) hT (s_X12_isNested_220 hN (hR.tr hT) (hB) (by first | exact ha | (rw [hT.2 218 (by decide)]; exact ha)) (by first | omega | decide | (simp only [Int32.le_iff_toInt_le, Int32.lt_iff_toInt_lt, ti_add, ti_sub, ti_mul, Int32.reduceToInt] at *; omega))) (fun _ h9 => absurd h9 List.not_mem_nil) (fun v217 σ218 hOσ218 hT hqv217 => ?_)
                        have hqv217 : v217 = 0 ∨ v217 = 1 := hqv217
                        have hB : ZB σ218.1 := ZB.tr hOσ218 (by decide) hB
                        refine ok_if (fun hc219 => ?_) (fun hc219 => ?_)
                        · refine ok_gR (v := 227) hT rfl (hR 218 17 rfl) ?_
                          refine ok_s16 hT rfl (by decide) (by first | omega | decide | (simp only [Int32.le_iff_toInt_le, Int32.lt_iff_toInt_lt, ti_add, ti_sub, ti_mul, Int32.reduceToInt] at *; omega)) (by first | omega | decide | (simp only [Int32.le_iff_toInt_le, Int32.lt_iff_toInt_lt, ti_add, ti_sub, ti_mul, Int32.reduceToInt] at *; omega)) (fun σ221 eσ221 hOσ221 hT => ?_)
                          have hB : ZB σ221.1 := by first | exact HQ | exact ZB_s eσ221 hB
                          exact ih66_16 (x4_16 + 1, σ221) (show Tr [227, 228] σ0 σ221 ∧ (0 ≤ (x4_16 + 1).toInt) ∧ (ZB σ221.1) from ⟨hT, (by first | omega | decide | (simp only [Int32.le_iff_toInt_le, Int32.lt_iff_toInt_lt, ti_add, ti_sub, ti_mul, Int32.reduceToInt] at *; omega)), hB⟩) (show ((1024 : Int32).toInt - (x4_16 + 1).toInt).toNat < ((1024 : Int32).toInt - x4_16.toInt).toNat from (by first | omega | decide | (simp only [Int32.le_iff_toInt_le, Int32.lt_iff_toInt_lt, ti_add, ti_sub, ti_mul, Int32.reduceToInt] at *; omega)))
                        · refine ok_gR (v := 227) hT rfl (hR 218 17 rfl) ?_
                          refine ok_s16 hT rfl (by decide) (by first | omega | decide | (simp only [Int32.le_iff_toInt_le, Int32.lt_iff_toInt_lt, ti_add, ti_sub, ti_mul, Int32.reduceToInt] at *; omega)) (by first | omega | decide | (simp only [Int32.le_iff_toInt_le, Int32.lt_iff_toInt_lt, ti_add, ti_sub, ti_mul, Int32.reduceToInt] at *; omega)) (fun σ223 eσ223 hOσ223 hT => ?_)
                          have hB : ZB σ223.1 := by first | exact HQ | exact ZB_s eσ223 hB
                          exact ih66_16 (x4_16 + 1, σ223) (show Tr [227, 228] σ0 σ223 ∧ (0 ≤ (x4_16 + 1).toInt) ∧ (ZB σ223.1) from ⟨hT, (by first | omega | decide | (simp only [Int32.le_iff_toInt_le, Int32.lt_iff_toInt_lt, ti_add, ti_sub, ti_mul, Int32.reduceToInt] at *; omega)), hB⟩) (show ((1024 : Int32).toInt - (x4_16 + 1).toInt).toNat < ((1024 : Int32).toInt - x4_16.toInt).toNat from (by first | omega | decide | (simp only [Int32.le_iff_toInt_le, Int32.lt_iff_toInt_lt, ti_add, ti_sub, ti_mul, Int32.reduceToInt] at *; omega)))
                      · rw [J_X12_turns_211.eq_1]
                        refine ok_gC rfl ?_
                        refine ok_zbT (Q := fun V σ => V = 0 ∨ V = 1) hT (s_X12_isNested_220 hN (hR.tr hT) (hB) (by first | exact ha | (rw [hT.2 218 (by decide)]; exact ha)) (by first | omega | decide | (simp only [Int32.le_iff_toInt_le, Int32.lt_iff_toInt_lt, ti_add, ti_sub, ti_mul, Int32.reduceToInt] at *; omega))) (fun _ h9 => absurd h9 List.not_mem_nil) (fun v224 σ225 hOσ225 hT hqv224 => ?_)
                        have hqv224 : v224 = 0 ∨ v224 = 1 := hqv224
                        have hB : ZB σ225.1 := ZB.tr hOσ225 (by decide) hB
                        refine ok_if (fun hc226 => ?_) (fun hc226 => ?_)
                        · refine ok_gR (v := 227) hT rfl (hR 218 17 rfl) ?_
                          refine ok_s16 hT rfl (by decide) (by first | omega | decide | (simp only [Int32.le_iff_toInt_le, Int32.lt_iff_toInt_lt, ti_add, ti_sub, ti_mul, Int32.reduceToInt] at *; omega)) (by first | omega | decide | (simp only [Int32.le_iff_toInt_le, Int32.lt_iff_toInt_lt, ti_add, ti_sub, ti_mul, Int32.reduceToInt] at *; omega)) (fun σ228 eσ228 hOσ228 hT => ?_)
                          have hB : ZB σ228.1 := by first | exact HQ | exact ZB_s eσ228 hB
                          exact ih66_16 (x4_16 + 1, σ228) (show Tr [227, 228] σ0 σ228 ∧ (0 ≤ (x4_16 + 1).toInt) ∧ (ZB σ228.1) from ⟨hT, (by first | omega | decide | (simp only [Int32.le_iff_toInt_le, Int32.lt_iff_toInt_lt, ti_add, ti_sub, ti_mul, Int32.reduceToInt] at *; omega)), hB⟩) (show ((1024 : Int32).toInt - (x4_16 + 1).toInt).toNat < ((1024 : Int32).toInt - x4_16.toInt).toNat from (by first | omega | decide | (simp only [Int32.le_iff_toInt_le, Int32.lt_iff_toInt_lt, ti_add, ti_sub, ti_mul, Int32.reduceToInt] at *; omega)))
                        · refine ok_gR (v := 227) hT rfl (hR 218 17 rfl) ?_
                          refine ok_s16 hT rfl (by decide) (by first | omega | decide | (simp only [Int32.le_iff_toInt_le, Int32.lt_iff_toInt_lt, ti_add, ti_sub, ti_mul, Int32.reduceToInt] at *; omega)) (by first | omega | decide | (simp only [Int32.le_iff_toInt_le, Int32.lt_iff_toInt_lt, ti_add, ti_sub, ti_mul, Int32.reduceToInt] at *; omega)) (fun σ230 eσ230 hOσ230 hT => ?_)
                          have hB : ZB σ230.1 := by first | exact HQ | exact ZB_s eσ230 hB
                          exact ih66_16 (x4_16 + 1, σ230) (show Tr [227, 228] σ0 σ230 ∧ (0 ≤ (x4_16 + 1).toInt) ∧ (ZB σ230.1) from ⟨hT, (by first | omega | decide | (simp only [Int32.le_iff_toInt_le, Int32.lt_iff_toInt_lt, ti_add, ti_sub, ti_mul, Int32.reduceToInt] at *; omega)), hB⟩) (show ((1024 : Int32).toInt - (x4_16 + 1).toInt).toNat < ((1024 : Int32).toInt - x4_16.toInt).toNat from (by first | omega | decide | (simp only [Int32.le_iff_toInt_le, Int32.lt_iff_toInt_lt, ti_add, ti_sub, ti_mul, Int32.reduceToInt] at *; omega)))
                    · refine ok_gR (v := 227) hT rfl (hR 218 17 rfl) ?_
                      refine ok_s16 hT rfl (by decide) (by first | omega | decide | (simp only [Int32.le_iff_toInt_le, Int32.lt_iff_toInt_lt, ti_add, ti_sub, ti_mul, Int32.reduceToInt] at *; omega)) (by first | omega | decide | (simp only [Int32.le_iff_toInt_le, Int32.lt_iff_toInt_lt, ti_add, ti_sub, ti_mul, Int32.reduceToInt] at *; omega)) (fun σ232 eσ232 hOσ232 hT => ?_)
                      have hB : ZB σ232.1 := by first | exact HQ | exact ZB_s eσ232 hB
                      exact ih66_16 (x4_16 + 1, σ232) (show Tr [227, 228] σ0 σ232 ∧ (0 ≤ (x4_16 + 1).toInt) ∧ (ZB σ232.1) from ⟨hT, (by first | omega | decide | (simp only [Int32.le_iff_toInt_le, Int32.lt_iff_toInt_lt, ti_add, ti_sub, ti_mul, Int32.reduceToInt] at *; omega)), hB⟩) (show ((1024 : Int32).toInt - (x4_16 + 1).toInt).toNat < ((1024 : Int32).toInt - x4_16.toInt).toNat from (by first | omega | decide | (simp only [Int32.le_iff_toInt_le, Int32.lt_iff_toInt_lt, ti_add, ti_sub, ti_mul, Int32.reduceToInt] at *; omega)))
                · refine ok_if (fun hc233 => ?_) (fun hc233 => ?_)
                  · refine ok_gR (v := 227) hT rfl (hR 218 17 rfl) ?_
                    refine ok_s16 hT rfl (by decide) (by first | omega | decide | (simp only [Int32.le_iff_toInt_le, Int32.lt_iff_toInt_lt, ti_add, ti_sub, ti_mul, Int32.reduceToInt] at *; omega)) (by first | omega | decide | (simp only [Int32.le_iff_toInt_le, Int32.lt_iff_toInt_lt, ti_add, ti_sub, ti_mul, Int32.reduceToInt] at *; omega)) (fun σ235 eσ235 hOσ235 hT => ?_)
                    have hB : ZB σ235.1 := by first | exact HQ | exact ZB_s eσ235 hB
                    exact ih66_16 (x4_16 + 1, σ235) (show Tr [227, 228] σ0 σ235 ∧ (0 ≤ (x4_16 + 1).toInt) ∧ (ZB σ235.1) from ⟨hT, (by first | omega | decide | (simp only [Int32.le_iff_toInt_le, Int32.lt_iff_toInt_lt, ti_add, ti_sub, ti_mul, Int32.reduceToInt] at *; omega)), hB⟩) (show ((1024 : Int32).toInt - (x4_16 + 1).toInt).toNat < ((1024 : Int32).toInt - x4_16.toInt).toNat from (by first | omega | decide | (simp only [Int32.le_iff_toInt_le, Int32.lt_iff_toInt_lt, ti_add, ti_sub, ti_mul, Int32.reduceToInt] at *; omega)))
                  · refine ok_aIn rfl (by first | omega | decide | (simp only [Int32.le_iff_toInt_le, Int32.lt_iff_toInt_lt, ti_add, ti_sub, ti_mul, Int32.reduceToInt] at *; omega)) (by first | omega | decide | (simp only [Int32.le_iff_toInt_le, Int32.lt_iff_toInt_lt, ti_add, ti_sub, ti_mul, Int32.reduceToInt] at *; omega)) (fun v236 ev236 => ?_)
                    have zv236 : v236 = 0 ∨ v236 = 1 := by rw [ev236]; exact hB 220 rfl _
                    refine ok_if (fun hc237 => ?_) (fun hc237 => ?_)
                    · refine ok_gR (v := 227) hT rfl (hR 218 17 rfl) ?_
                      refine ok_s16 hT rfl (by decide) (by first | omega | decide | (simp only [Int32.le_iff_toInt_le, Int32.lt_iff_toInt_lt, ti_add, ti_sub, ti_mul, Int32.reduceToInt] at *; omega)) (by first | omega | decide | (simp only [Int32.le_iff_toInt_le, Int32.lt_iff_toInt_lt, ti_add, ti_sub, ti_mul, Int32.reduceToInt] at *; omega)) (fun σ239 eσ239 hOσ239 hT => ?_)
                      have hB : ZB σ239.1 := by first | exact HQ | exact ZB_s eσ239 hB
                      exact ih66_16 (x4_16 + 1, σ239) (show Tr [227, 228] σ0 σ239 ∧ (0 ≤ (x4_16 + 1).toInt) ∧ (ZB σ239.1) from ⟨hT, (by first | omega | decide | (simp only [Int32.le_iff_toInt_le, Int32.lt_iff_toInt_lt, ti_add, ti_sub, ti_mul, Int32.reduceToInt] at *; omega)), hB⟩) (show ((1024 : Int32).toInt - (x4_16 + 1).toInt).toNat < ((1024 : Int32).toInt - x4_16.toInt).toNat from (by first | omega | decide | (simp only [Int32.le_iff_toInt_le, Int32.lt_iff_toInt_lt, ti_add, ti_sub, ti_mul, Int32.reduceToInt] at *; omega)))
                    · refine ok_gR (v := 227) hT rfl (hR 218 17 rfl) ?_
                      refine ok_s16 hT rfl (by decide) (by first | omega | decide | (simp only [Int32.le_iff_toInt_le, Int32.lt_iff_toInt_lt, ti_add, ti_sub, ti_mul, Int32.reduceToInt] at *; omega)) (by first | omega | decide | (simp only [Int32.le_iff_toInt_le, Int32.lt_iff_toInt_lt, ti_add, ti_sub, ti_mul, Int32.reduceToInt] at *; omega)) (fun σ241 eσ241 hOσ241 hT => ?_)
                      have hB : ZB σ241.1 := by first | exact HQ | exact ZB_s eσ241 hB
                      exact ih66_16 (x4_16 + 1, σ241) (show Tr [227, 228] σ0 σ241 ∧ (0 ≤ (x4_16 + 1).toInt) ∧ (ZB σ241.1) from ⟨hT, (by first | omega | decide | (simp only [Int32.le_iff_toInt_le, Int32.lt_iff_toInt_lt, ti_add, ti_sub, ti_mul, Int32.reduceToInt] at *; omega)), hB⟩) (show ((1024 : Int32).toInt - (x4_16 + 1).toInt).toNat < ((1024 : Int32).toInt - x4_16.toInt).toNat from (by first | omega | decide | (simp only [Int32.le_iff_toInt_le, Int32.lt_iff_toInt_lt, ti_add, ti_sub, ti_mul, Int32.reduceToInt] at *; omega)))

set_option maxHeartbeats 4000000 in
set_option maxRecDepth 100000 in
theorem s_X12_turns_226 {N : Nat} (hN : 1048576 ≤ N) {x1 : Int32} {x3 : Int32} {σ0 : zS}  (hR : RF σ0.2.2) (hB : ZB σ0.1) (ha : 0 ≤ (σ0.1 218 20).toInt ∧ (σ0.1 218 20).toInt ≤ 1024) (h3 : 0 ≤ x3.toInt ∧ x3.toInt ≤ 17408) : Ok (f_X12_turns N 218 x1 226 x3 σ0) (fun r => Tr [227, 228] σ0 r.2 ∧ (ZB r.2.1)) := by
  have hT : Tr [227, 228] σ0 σ0 := Tr.rf
  rw [f_X12_turns.eq_1]
  refine ok_if (fun hc1 => ?_) (fun hc1 => ?_)
  · refine ok_lp (fun t : Int32 × zS => Tr [227, 228] σ0 (t.2) ∧ (0 ≤ (t.1).toInt) ∧ (ZB (t.2).1)) (fun t : Int32 × zS => ((1024 : Int32).toInt - (t.1).toInt).toNat) (fun again2 t hI ih8_2 => ?_) N _ (show Tr [227, 228] σ0 σ0 ∧ (0 ≤ (0 : Int32).toInt) ∧ (ZB σ0.1) from ⟨hT, (by first | omega | decide | (simp only [Int32.le_iff_toInt_le, Int32.lt_iff_toInt_lt, ti_add, ti_sub, ti_mul, Int32.reduceToInt] at *; omega)), hB⟩) (show ((1024 : Int32).toInt - (0 : Int32).toInt).toNat < N from (by first | omega | decide | (simp only [Int32.le_iff_toInt_le, Int32.lt_iff_toInt_lt, ti_add, ti_sub, ti_mul, Int32.reduceToInt] at *; omega)))
    obtain ⟨x4_2, σ2⟩ := t
    have hI : Tr [227, 228] σ0 σ2 ∧ (0 ≤ x4_2.toInt) ∧ (ZB σ2.1) := hI
    obtain ⟨hT, hI2, hB⟩ := hI
    rw [F_X12_turns_8.eq_1]
    refine ok_if (fun hc3 => ?_) (fun hc3 => ?_)
    · refine ok_gR (v := 228) hT rfl (hR 218 18 rfl) ?_
      refine ok_gC rfl ?_
      refine ok_zbT (Q := fun V σ => ZB σ.1) hT (s_X12_turns__228 hN (hR.tr hT) (hB) (by first | exact ha | (rw [hT.2 218 (by decide)]; exact ha))) (by decide) (fun v5 σ6 hOσ6 hT hqv5 => ?_)
      have hqv5 : ZB σ6.1 := hqv5
      have hB : ZB σ6.1 := by first | exact hqv5 | exact ZB_s eσ6 hB
      exact ok_some ⟨hT, (show ZB σ6.1 from by exact hB)⟩
    · refine ok_gR (v := 228) hT rfl (hR 218 18 rfl) ?_
      refine ok_gI0 hT rfl (by decide) ?_
      refine ok_if (fun hc9 => ?_) (fun hc9 => ?_)
      · refine ok_s16 hT rfl (by decide) (by first | omega | decide | (simp only [Int32.le_iff_toInt_le, Int32.lt_iff_toInt_lt, ti_add, ti_sub, ti_mul, Int32.reduceToInt] at *; omega)) (by first | omega | decide | (simp only [Int32.le_iff_toInt_le, Int32.lt_iff_toInt_lt, ti_add, ti_sub, ti_mul, Int32.reduceToInt] at *; omega)) (fun σ10 eσ10 hOσ10 hT => ?_)
        have hB : ZB σ10.1 := by first | exact HQ | exact ZB_s eσ10 hB
        exact ih8_2 (x4_2 + 1, σ10) (show Tr [227, 228] σ0 σ10 ∧ (0 ≤ (x4_2 + 1).toInt) ∧ (ZB σ10.1) from ⟨hT, (by first | omega | decide | (simp only [Int32.le_iff_toInt_le, Int32.lt_iff_toInt_lt, ti_add, ti_sub, ti_mul, Int32.reduceToInt] at *; omega)), hB⟩) (show ((1024 : Int32).toInt - (x4_2 + 1).toInt).toNat < ((1024 : Int32).toInt - x4_2.toInt).toNat from (by first | omega | decide | (simp only [Int32.le_iff_toInt_le, Int32.lt_iff_toInt_lt, ti_add, ti_sub, ti_mul, Int32.reduceToInt] at *; omega)))
      · refine ok_gC rfl ?_
        refine ok_zbT (Q := fun V σ => V = 0 ∨ V = 1) hT (s_X12_isTouching_226 hN (hR.tr hT) (hB) (by first | exact ha | (rw [hT.2 218 (by decide)]; exact ha)) (by first | omega | decide | (simp only [Int32.le_iff_toInt_le, Int32.lt_iff_toInt_lt, ti_add, ti_sub, ti_mul, Int32.reduceToInt] at *; omega)) (by first | omega | decide | (simp only [Int32.le_iff_toInt_le, Int32.lt_iff_toInt_lt, ti_add, ti_sub, ti_mul, Int32.reduceToInt] at *; omega))) (fun _ h9 => absurd h9 List.not_mem_nil) (fun v11 σ12 hOσ12 hT hqv11 => ?_)
        have hqv11 : v11 = 0 ∨ v11 = 1 := hqv11
        have hB : ZB σ12.1 := ZB.tr hOσ12 (by decide) hB
        refine ok_if (fun hc13 => ?_) (fun hc13 => ?_)
        · refine ok_s16 hT rfl (by decide) (by first | omega | decide | (simp only [Int32.le_iff_toInt_le, Int32.lt_iff_toInt_lt, ti_add, ti_sub, ti_mul, Int32.reduceToInt] at *; omega)) (by first | omega | decide | (simp only [Int32.le_iff_toInt_le, Int32.lt_iff_toInt_lt, ti_add, ti_sub, ti_mul, Int32.reduceToInt] at *; omega)) (fun σ14 eσ14 hOσ14 hT => ?_)
          have hB : ZB σ14.1 := by first | exact HQ | exact ZB_s eσ14 hB
          exact ih8_2 (x4_2 + 1, σ14) (show Tr [227, 228] σ0 σ14 ∧ (0 ≤ (x4_2 + 1).toInt) ∧ (ZB σ14.1) from ⟨hT, (by first | omega | decide | (simp only [Int32.le_iff_toInt_le, Int32.lt_iff_toInt_lt, ti_add, ti_sub, ti_mul, Int32.reduceToInt] at *; omega)), hB⟩) (show ((1024 : Int32).toInt - (x4_2 + 1).toInt).toNat < ((1024 : Int32).toInt - x4_2.toInt).toNat from (by first | omega | decide | (simp only [Int32.le_iff_toInt_le, Int32.lt_iff_toInt_lt, ti_add, ti_sub, ti_mul, Int32.reduceToInt] at *; omega)))
        · refine ok_s16 hT rfl (by decide) (by first | omega | decide | (simp only [Int32.le_iff_toInt_le, Int32.lt_iff_toInt_lt, ti_add, ti_sub, ti_mul, Int32.reduceToInt] at *; omega)) (by first | omega | decide | (simp only [Int32.le_iff_toInt_le, Int32.lt_iff_toInt_lt, ti_add, ti_sub, ti_mul, Int32.reduceToInt] at *; omega)) (fun σ15 eσ15 hOσ15 hT => ?_)
          have hB : ZB σ15.1 := by first | exact HQ | exact ZB_s eσ15 hB
          exact ih8_2 (x4_2 + 1, σ15) (show Tr [227, 228] σ0 σ15 ∧ (0 ≤ (x4_2 + 1).toInt) ∧ (ZB σ15.1) from ⟨hT, (by first | omega | decide | (simp only [Int32.le_iff_toInt_le, Int32.lt_iff_toInt_lt, ti_add, ti_sub, ti_mul, Int32.reduceToInt] at *; omega)), hB⟩) (show ((1024 : Int32).toInt - (x4_2 + 1).toInt).toNat < ((1024 : Int32).toInt - x4_2.toInt).toNat from (by first | omega | decide | (simp only [Int32.le_iff_toInt_le, Int32.lt_iff_toInt_lt, ti_add, ti_sub, ti_mul, Int32.reduceToInt] at *; omega)))
  · refine ok_lp (fun t : Int32 × zS => Tr [227, 228] σ0 (t.2) ∧ (0 ≤ (t.1).toInt) ∧ (ZB (t.2).1)) (fun t : Int32 × zS => ((1024 : Int32).toInt - (t.1).toInt).toNat) (fun again16 t hI ih66_16 => ?_) N _ (show Tr [227, 228] σ0 σ0 ∧ (0 ≤ (0 : Int32).toInt) ∧ (ZB σ0.1) from ⟨hT, (by first | omega | decide | (simp only [Int32.le_iff_toInt_le, Int32.lt_iff_toInt_lt, ti_add, ti_sub, ti_mul, Int32.reduceToInt] at *; omega)), hB⟩) (show ((1024 : Int32).toInt - (0 : Int32).toInt).toNat < N from (by first | omega | decide | (simp only [Int32.le_iff_toInt_le, Int32.lt_iff_toInt_lt, ti_add, ti_sub, ti_mul, Int32.reduceToInt] at *; omega)))
    obtain ⟨x4_16, σ16⟩ := t
    have hI : Tr [227, 228] σ0 σ16 ∧ (0 ≤ x4_16.toInt) ∧ (ZB σ16.1) := hI
    obtain ⟨hT, hI16, hB⟩ := hI
    rw [F_X12_turns_66.eq_1]
    refine ok_if (fun hc17 => ?_) (fun hc17 => ?_)
    · exact ok_some ⟨hT, (show ZB σ16.1 from by exact hB)⟩
    · refine ok_gI0 hT rfl (by decide) ?_
      refine ok_if (fun hc19 => ?_) (fun hc19 => ?_)
      · rw [J_X12_turns_88.eq_1]
        refine ok_if (fun hc20 => ?_) (fun hc20 => ?_)
        · rw [J_X12_turns_99.eq_1]
          refine ok_if (fun hc21 => ?_) (fun hc21 => ?_)
          · refine ok_gR (v := 227) hT rfl (hR 218 17 rfl) ?_
            refine ok_s16 hT rfl (by decide) (by first | omega | decide | (simp only [Int32.le_iff_toInt_le, Int32.lt_iff_toInt_lt, ti_add, ti_sub, ti_mul, Int32.reduceToInt] at *; omega)) (by first | omega | decide | (simp only [Int32.le_iff_toInt_le, Int32.lt_iff_toInt_lt, ti_add, ti_sub, ti_mul, Int32.reduceToInt] at *; omega)) (fun σ23 eσ23 hOσ23 hT => ?_)
            have hB : ZB σ23.1 := by first | exact HQ | exact ZB_s eσ23 hB
            exact ih66_16 (x4_16 + 1, σ23) (show Tr [227, 228] σ0 σ23 ∧ (0 ≤ (x4_16 + 1).toInt) ∧ (ZB σ23.1) from ⟨hT, (by first | omega | decide | (simp only [Int32.le_iff_toInt_le, Int32.lt_iff_toInt_lt, ti_add, ti_sub, ti_mul, Int32.reduceToInt] at *; omega)), hB⟩) (show ((1024 : Int32).toInt - (x4_16 + 1).toInt).toNat < ((1024 : Int32).toInt - x4_16.toInt).toNat from (by first | omega | decide | (simp only [Int32.le_iff_toInt_le, Int32.lt_iff_toInt_lt, ti_add, ti_sub, ti_mul, Int32.reduceToInt] at *; omega)))
          · refine ok_aIn rfl (by first | omega | decide | (simp only [Int32.le_iff_toInt_le, Int32.lt_iff_toInt_lt, ti_add, ti_sub, ti_mul, Int32.reduceToInt] at *; omega)) (by first | omega | decide | (simp only [Int32.le_iff_toInt_le, Int32.lt_iff_toInt_lt, ti_add, ti_sub, ti_mul, Int32.reduceToInt] at *; omega)) (fun v24 ev24 => ?_)
            have zv24 : v24 = 0 ∨ v24 = 1 := by rw [ev24]; exact hB 226 rfl _
            refine ok_if (fun hc25 => ?_) (fun hc25 => ?_)
            · refine ok_gR (v := 227) hT rfl (hR 218 17 rfl) ?_
              refine ok_s16 hT rfl (by decide) (by first | omega | decide | (simp only [Int32.le_iff_toInt_le, Int32.lt_iff_toInt_lt, ti_add, ti_sub, ti_mul, Int32.reduceToInt] at *; omega)) (by first | omega | decide | (simp only [Int32.le_iff_toInt_le, Int32.lt_iff_toInt_lt, ti_add, ti_sub, ti_mul, Int32.reduceToInt] at *; omega)) (fun σ27 eσ27 hOσ27 hT => ?_)
              have hB : ZB σ27.1 := by first | exact HQ | exact ZB_s eσ27 hB
              exact ih66_16 (x4_16 + 1, σ27) (show Tr [227, 228] σ0 σ27 ∧ (0 ≤ (x4_16 + 1).toInt) ∧ (ZB σ27.1) from ⟨hT, (by first | omega | decide | (simp only [Int32.le_iff_toInt_le, Int32.lt_iff_toInt_lt, ti_add, ti_sub, ti_mul, Int32.reduceToInt] at *; omega)), hB⟩) (show ((1024 : Int32).toInt - (x4_16 + 1).toInt).toNat < ((1024 : Int32).toInt - x4_16.toInt).toNat from (by first | omega | decide | (simp only [Int32.le_iff_toInt_le, Int32.lt_iff_toInt_lt, ti_add, ti_sub, ti_mul, Int32.reduceToInt] at *; omega)))
            · refine ok_if (fun hc28 => ?_) (fun hc28 => ?_)
              · rw [J_X12_turns_127.eq_1]
                refine ok_gC rfl ?_
                refine ok_zbT (Q := fun V σ => V = 0 ∨ V = 1) hT (s_X12_isNested_226 hN (hR.tr hT) (hB) (by first | exact ha | (rw [hT.2 218 (by decide)]; exact ha)) (by first | omega | decide | (simp only [Int32.le_iff_toInt_le, Int32.lt_iff_toInt_lt, ti_add, ti_sub, ti_mul, Int32.reduceToInt] at *; omega))) (fun _ h9 => absurd h9 List.not_mem_nil) (fun v29 σ30 hOσ30 hT hqv29 => ?_)
                have hqv29 : v29 = 0 ∨ v29 = 1 := hqv29
                have hB : ZB σ30.1 := ZB.tr hOσ30 (by decide) hB
                refine ok_if (fun hc31 => ?_) (fun hc31 => ?_)
                · refine ok_gR (v := 227) hT rfl (hR 218 17 rfl) ?_
                  refine ok_s16 hT rfl (by decide) (by first | omega | decide | (simp only [Int32.le_iff_toInt_le, Int32.lt_iff_toInt_lt, ti_add, ti_sub, ti_mul, Int32.reduceToInt] at *; omega)) (by first | omega | decide | (simp only [Int32.le_iff_toInt_le, Int32.lt_iff_toInt_lt, ti_add, ti_sub, ti_mul, Int32.reduceToInt] at *; omega)) (fun σ33 eσ33 hOσ33 hT => ?_)
                  have hB : ZB σ33.1 := by first | exact HQ | exact ZB_s eσ33 hB
                  exact ih66_16 (x4_16 + 1, σ33) (show Tr [227, 228] σ0 σ33 ∧ (0 ≤ (x4_16 + 1).toInt) ∧ (ZB σ33.1) from ⟨hT, (by first | omega | decide | (simp only [Int32.le_iff_toInt_le, Int32.lt_iff_toInt_lt, ti_add, ti_sub, ti_mul, Int32.reduceToInt] at *; omega)), hB⟩) (show ((1024 : Int32).toInt - (x4_16 + 1).toInt).toNat < ((1024 : Int32).toInt - x4_16.toInt).toNat from (by first | omega | decide | (simp only [Int32.le_iff_toInt_le, Int32.lt_iff_toInt_lt, ti_add, ti_sub, ti_mul, Int32.reduceToInt] at *; omega)))
                · refine ok_gR (v := 227) hT rfl (hR 218 17 rfl) ?_
                  refine ok_s16 hT rfl (by decide) (by first | omega | decide | (simp only [Int32.le_iff_toInt_le, Int32.lt_iff_toInt_lt, ti_add, ti_sub, ti_mul, Int32.reduceToInt] at *; omega)) (by first | omega | decide | (simp only [Int32.le_iff_toInt_le, Int32.lt_iff_toInt_lt, ti_add, ti_sub, ti_mul, Int32.reduceToInt] at *; omega)) (fun σ35 eσ35 hOσ35 hT => ?_)
                  have hB : ZB σ35.1 := by first | exact HQ | exact ZB_s eσ35 hB
                  exact ih66_16 (x4_16 + 1, σ35) (show Tr [227, 228] σ0 σ35 ∧ (0 ≤ (x4_16 + 1).toInt) ∧ (ZB σ35.1) from ⟨hT, (by first | omega | decide | (simp only [Int32.le_iff_toInt_le, Int32.lt_iff_toInt_lt, ti_add, ti_sub, ti_mul, Int32.reduceToInt] at *; omega)), hB⟩) (show ((1024 : Int32).toInt - (x4_16 + 1).toInt).toNat < ((1024 : Int32).toInt - x4_16.toInt).toNat from (by first | omega | decide | (simp only [Int32.le_iff_toInt_le, Int32.lt_iff_toInt_lt, ti_add, ti_sub, ti_mul, Int32.reduceToInt] at *; omega)))
              · rw [J_X12_turns_127.eq_1]
                refine ok_gC rfl ?_
                refine ok_zbT (Q := fun V σ => V = 0 ∨ V = 1) hT (s_X12_isNested_226 hN (hR.tr hT) (hB) (by first | exact ha | (rw [hT.2 218 (by decide)]; exact ha)) (by first | omega | decide | (simp only [Int32.le_iff_toInt_le, Int32.lt_iff_toInt_lt, ti_add, ti_sub, ti_mul, Int32.reduceToInt] at *; omega))) (fun _ h9 => absurd h9 List.not_mem_nil) (fun v36 σ37 hOσ37 hT hqv36 => ?_)
                have hqv36 : v36 = 0 ∨ v36 = 1 := hqv36
                have hB : ZB σ37.1 := ZB.tr hOσ37 (by decide) hB
                refine ok_if (fun hc38 => ?_) (fun hc38 => ?_)
                · refine ok_gR (v := 227) hT rfl (hR 218 17 rfl) ?_
                  refine ok_s16 hT rfl (by decide) (by first | omega | decide | (simp only [Int32.le_iff_toInt_le, Int32.lt_iff_toInt_lt, ti_add, ti_sub, ti_mul, Int32.reduceToInt] at *; omega)) (by first | omega | decide | (simp only [Int32.le_iff_toInt_le, Int32.lt_iff_toInt_lt, ti_add, ti_sub, ti_mul, Int32.reduceToInt] at *; omega)) (fun σ40 eσ40 hOσ40 hT => ?_)
                  have hB : ZB σ40.1 := by first | exact HQ | exact ZB_s eσ40 hB
                  exact ih66_16 (x4_16 + 1, σ40) (show Tr [227, 228] σ0 σ40 ∧ (0 ≤ (x4_16 + 1).toInt) ∧ (ZB σ40.1) from ⟨hT, (by first | omega | decide | (simp only [Int32.le_iff_toInt_le, Int32.lt_iff_toInt_lt, ti_add, ti_sub, ti_mul, Int32.reduceToInt] at *; omega)), hB⟩) (show ((1024 : Int32).toInt - (x4_16 + 1).toInt).toNat < ((1024 : Int32).toInt - x4_16.toInt).toNat from (by first | omega | decide | (simp only [Int32.le_iff_toInt_le, Int32.lt_iff_toInt_lt, ti_add, ti_sub, ti_mul, Int32.reduceToInt] at *; omega)))
                · refine ok_gR (v := 227) hT rfl (hR 218 17 rfl) ?_
                  refine ok_s16 hT rfl (by decide) (by first | omega | decide | (simp only [Int32.le_iff_toInt_le, Int32.lt_iff_toInt_lt, ti_add, ti_sub, ti_mul, Int32.reduceToInt] at *; omega)) (by first | omega | decide | (simp only [Int32.le_iff_toInt_le, Int32.lt_iff_toInt_lt, ti_add, ti_sub, ti_mul, Int32.reduceToInt] at *; omega)) (fun σ42 eσ42 hOσ42 hT => ?_)
                  have hB : ZB σ42.1 := by first | exact HQ | exact ZB_s eσ42 hB
                  exact ih66_16 (x4_16 + 1, σ42) (show Tr [227, 228] σ0 σ42 ∧ (0 ≤ (x4_16 + 1).toInt) ∧ (ZB σ42.1) from ⟨hT, (by first | omega | decide | (simp only [Int32.le_iff_toInt_le, Int32.lt_iff_toInt_lt, ti_add, ti_sub, ti_mul, Int32.reduceToInt] at *; omega)), hB⟩) (show ((1024 : Int32).toInt - (x4_16 + 1).toInt).toNat < ((1024 : Int32).toInt - x4_16.toInt).toNat from (by first | omega | decide | (simp only [Int32.le_iff_toInt_le, Int32.lt_iff_toInt_lt, ti_add, ti_sub, ti_mul, Int32.reduceToInt] at *; omega)))
        · refine ok_if (fun hc43 => ?_) (fun hc43 => ?_)
          · rw [J_X12_turns_99.eq_1]
            refine ok_if (fun hc44 => ?_) (fun hc44 => ?_)
            · refine ok_gR (v := 227) hT rfl (hR 218 17 rfl) ?_
              refine ok_s16 hT rfl (by decide) (by first | omega | decide | (simp only [Int32.le_iff_toInt_le, Int32.lt_iff_toInt_lt, ti_add, ti_sub, ti_mul, Int32.reduceToInt] at *; omega)) (by first | omega | decide | (simp only [Int32.le_iff_toInt_le, Int32.lt_iff_toInt_lt, ti_add, ti_sub, ti_mul, Int32.reduceToInt] at *; omega)) (fun σ46 eσ46 hOσ46 hT => ?_)
              have hB : ZB σ46.1 := by first | exact HQ | exact ZB_s eσ46 hB
              exact ih66_16 (x4_16 + 1, σ46) (show Tr [227, 228] σ0 σ46 ∧ (0 ≤ (x4_16 + 1).toInt) ∧ (ZB σ46.1) from ⟨hT, (by first | omega | decide | (simp only [Int32.le_iff_toInt_le, Int32.lt_iff_toInt_lt, ti_add, ti_sub, ti_mul, Int32.reduceToInt] at *; omega)), hB⟩) (show ((1024 : Int32).toInt - (x4_16 + 1).toInt).toNat < ((1024 : Int32).toInt - x4_16.toInt).toNat from (by first | omega | decide | (simp only [Int32.le_iff_toInt_le, Int32.lt_iff_toInt_lt, ti_add, ti_sub, ti_mul, Int32.reduceToInt] at *; omega)))
            · refine ok_aIn rfl (by first | omega | decide | (simp only [Int32.le_iff_toInt_le, Int32.lt_iff_toInt_lt, ti_add, ti_sub, ti_mul, Int32.reduceToInt] at *; omega)) (by first | omega | decide | (simp only [Int32.le_iff_toInt_le, Int32.lt_iff_toInt_lt, ti_add, ti_sub, ti_mul, Int32.reduceToInt] at *; omega)) (fun v47 ev47 => ?_)
              have zv47 : v47 = 0 ∨ v47 = 1 := by rw [ev47]; exact hB 226 rfl _
              refine ok_if (fun hc48 => ?_) (fun hc48 => ?_)
              · refine ok_gR (v := 227) hT rfl (hR 218 17 rfl) ?_
                refine ok_s16 hT rfl (by decide) (by first | omega | decide | (simp only [Int32.le_iff_toInt_le, Int32.lt_iff_toInt_lt, ti_add, ti_sub, ti_mul, Int32.reduceToInt] at *; omega)) (by first | omega | decide | (simp only [Int32.le_iff_toInt_le, Int32.lt_iff_toInt_lt, ti_add, ti_sub, ti_mul, Int32.reduceToInt] at *; omega)) (fun σ50 eσ50 hOσ50 hT => ?_)
                have hB : ZB σ50.1 := by first | exact HQ | exact ZB_s eσ50 hB
                exact ih66_16 (x4_16 + 1, σ50) (show Tr [227, 228] σ0 σ50 ∧ (0 ≤ (x4_16 + 1).toInt) ∧ (ZB σ50.1) from ⟨hT, (by first | omega | decide | (simp only [Int32.le_iff_toInt_le, Int32.lt_iff_toInt_lt, ti_add, ti_sub, ti_mul, Int32.reduceToInt] at *; omega)), hB⟩) (show ((1024 : Int32).toInt - (x4_16 + 1).toInt).toNat < ((1024 : Int32).toInt - x4_16.toInt).toNat from (by first | omega | decide | (simp only [Int32.le_iff_toInt_le, Int32.lt_iff_toInt_lt, ti_add, ti_sub, ti_mul, Int32.reduceToInt] at *; omega)))
              · refine ok_if (fun hc51 => ?_) (fun hc51 => ?_)
                · rw [J_X12_turns_127.eq_1]
                  refine ok_gC rfl ?_
                  refine ok_zbT (Q := fun V σ => V = 0 ∨ V = 1) hT (s_X12_isNested_226 hN (hR.tr hT) (hB) (by first | exact ha | (rw [hT.2 218 (by decide)]; exact ha)) (by first | omega | decide | (simp only [Int32.le_iff_toInt_le, Int32.lt_iff_toInt_lt, ti_add, ti_sub, ti_mul, Int32.reduceToInt] at *; omega))) (fun _ h9 => absurd h9 List.not_mem_nil) (fun v52 σ53 hOσ53 hT hqv52 => ?_)
                  have hqv52 : v52 = 0 ∨ v52 = 1 := hqv52
                  have hB : ZB σ53.1 := ZB.tr hOσ53 (by decide) hB
                  refine ok_if (fun hc54 => ?_) (fun hc54 => ?_)
                  · refine ok_gR (v := 227) hT rfl (hR 218 17 rfl) ?_
                    refine ok_s16 hT rfl (by decide) (by first | omega | decide | (simp only [Int32.le_iff_toInt_le, Int32.lt_iff_toInt_lt, ti_add, ti_sub, ti_mul, Int32.reduceToInt] at *; omega)) (by first | omega | decide | (simp only [Int32.le_iff_toInt_le, Int32.lt_iff_toInt_lt, ti_add, ti_sub, ti_mul, Int32.reduceToInt] at *; omega)) (fun σ56 eσ56 hOσ56 hT => ?_)
                    have hB : ZB σ56.1 := by first | exact HQ | exact ZB_s eσ56 hB
                    exact ih66_16 (x4_16 + 1, σ56) (show Tr [227, 228] σ0 σ56 ∧ (0 ≤ (x4_16 + 1).toInt) ∧ (ZB σ56.1) from ⟨hT, (by first | omega | decide | (simp only [Int32.le_iff_toInt_le, Int32.lt_iff_toInt_lt, ti_add, ti_sub, ti_mul, Int32.reduceToInt] at *; omega)), hB⟩) (show ((1024 : Int32).toInt - (x4_16 + 1).toInt).toNat < ((1024 : Int32).toInt - x4_16.toInt).toNat from (by first | omega | decide | (simp only [Int32.le_iff_toInt_le, Int32.lt_iff_toInt_lt, ti_add, ti_sub, ti_mul, Int32.reduceToInt] at *; omega)))
                  · refine ok_gR (v := 227) hT rfl (hR 218 17 rfl) ?_
                    refine ok_s16 hT rfl (by decide) (by first | omega | decide | (simp only [Int32.le_iff_toInt_le, Int32.lt_iff_toInt_lt, ti_add, ti_sub, ti_mul, Int32.reduceToInt] at *; omega)) (by first | omega | decide | (simp only [Int32.le_iff_toInt_le, Int32.lt_iff_toInt_lt, ti_add, ti_sub, ti_mul, Int32.reduceToInt] at *; omega)) (fun σ58 eσ58 hOσ58 hT => ?_)
                    have hB : ZB σ58.1 := by first | exact HQ | exact ZB_s eσ58 hB
                    exact ih66_16 (x4_16 + 1, σ58) (show Tr [227, 228] σ0 σ58 ∧ (0 ≤ (x4_16 + 1).toInt) ∧ (ZB σ58.1) from ⟨hT, (by first | omega | decide | (simp only [Int32.le_iff_toInt_le, Int32.lt_iff_toInt_lt, ti_add, ti_sub, ti_mul, Int32.reduceToInt] at *; omega)), hB⟩) (show ((1024 : Int32).toInt - (x4_16 + 1).toInt).toNat < ((1024 : Int32).toInt - x4_16.toInt).toNat from (by first | omega | decide | (simp only [Int32.le_iff_toInt_le, Int32.lt_iff_toInt_lt, ti_add, ti_sub, ti_mul, Int32.reduceToInt] at *; omega)))
                · rw [J_X12_turns_127.eq_1]
                  refine ok_gC rfl ?_
                  refine ok_zbT (Q := fun V σ => V = 0 ∨ V = 1) hT (s_X12_isNested_226 hN (hR.tr hT) (hB) (by first | exact ha | (rw [hT.2 218 (by decide)]; exact ha)) (by first | omega | decide | (simp only [Int32.le_iff_toInt_le, Int32.lt_iff_toInt_lt, ti_add, ti_sub, ti_mul, Int32.reduceToInt] at *; omega))) (fun _ h9 => absurd h9 List.not_mem_nil) (fun v59 σ60 hOσ60 hT hqv59 => ?_)
                  have hqv59 : v59 = 0 ∨ v59 = 1 := hqv59
                  have hB : ZB σ60.1 := ZB.tr hOσ60 (by decide) hB
                  refine ok_if (fun hc61 => ?_) (fun hc61 => ?_)
                  · refine ok_gR (v := 227) hT rfl (hR 218 17 rfl) ?_
                    refine ok_s16 hT rfl (by decide) (by first | omega | decide | (simp only [Int32.le_iff_toInt_le, Int32.lt_iff_toInt_lt, ti_add, ti_sub, ti_mul, Int32.reduceToInt] at *; omega)) (by first | omega | decide | (simp only [Int32.le_iff_toInt_le, Int32.lt_iff_toInt_lt, ti_add, ti_sub, ti_mul, Int32.reduceToInt] at *; omega)) (fun σ63 eσ63 hOσ63 hT => ?_)
                    have hB : ZB σ63.1 := by first | exact HQ | exact ZB_s eσ63 hB
                    exact ih66_16 (x4_16 + 1, σ63) (show Tr [227, 228] σ0 σ63 ∧ (0 ≤ (x4_16 + 1).toInt) ∧ (ZB σ63.1) from ⟨hT, (by first | omega | decide | (simp only [Int32.le_iff_toInt_le, Int32.lt_iff_toInt_lt, ti_add, ti_sub, ti_mul, Int32.reduceToInt] at *; omega)), hB⟩) (show ((1024 : Int32).toInt - (x4_16 + 1).toInt).toNat < ((1024 : Int32).toInt - x4_16.toInt).toNat from (by first | omega | decide | (simp only [Int32.le_iff_toInt_le, Int32.lt_iff_toInt_lt, ti_add, ti_sub, ti_mul, Int32.reduceToInt] at *; omega)))
                  · refine ok_gR (v := 227) hT rfl (hR 218 17 rfl) ?_
                    refine ok_s16 hT rfl (by decide) (by first | omega | decide | (simp only [Int32.le_iff_toInt_le, Int32.lt_iff_toInt_lt, ti_add, ti_sub, ti_mul, Int32.reduceToInt] at *; omega)) (by first | omega | decide | (simp only [Int32.le_iff_toInt_le, Int32.lt_iff_toInt_lt, ti_add, ti_sub, ti_mul, Int32.reduceToInt] at *; omega)) (fun σ65 eσ65 hOσ65 hT => ?_)
                    have hB : ZB σ65.1 := by first | exact HQ | exact ZB_s eσ65 hB
                    exact ih66_16 (x4_16 + 1, σ65) (show Tr [227, 228] σ0 σ65 ∧ (0 ≤ (x4_16 + 1).toInt) ∧ (ZB σ65.1) from ⟨hT, (by first | omega | decide | (simp only [Int32.le_iff_toInt_le, Int32.lt_iff_toInt_lt, ti_add, ti_sub, ti_mul, Int32.reduceToInt] at *; omega)), hB⟩) (show ((1024 : Int32).toInt - (x4_16 + 1).toInt).toNat < ((1024 : Int32).toInt - x4_16.toInt).toNat from (by first | omega | decide | (simp only [Int32.le_iff_toInt_le, Int32.lt_iff_toInt_lt, ti_add, ti_sub, ti_mul, Int32.reduceToInt] at *; omega)))
          · refine ok_if (fun hc66 => ?_) (fun hc66 => ?_)
            · refine ok_if (fun hc67 => ?_) (fun hc67 => ?_)
              · refine ok_gR (v := 227) hT rfl (hR 218 17 rfl) ?_
                refine ok_s16 hT rfl (by decide) (by first | omega | decide | (simp only [Int32.le_iff_toInt_le, Int32.lt_iff_toInt_lt, ti_add, ti_sub, ti_mul, Int32.reduceToInt] at *; omega)) (by first | omega | decide | (simp only [Int32.le_iff_toInt_le, Int32.lt_iff_toInt_lt, ti_add, ti_sub, ti_mul, Int32.reduceToInt] at *; omega)) (fun σ69 eσ69 hOσ69 hT => ?_)
                have hB : ZB σ69.1 := by first | exact HQ | exact ZB_s eσ69 hB
                exact ih66_16 (x4_16 + 1, σ69) (show Tr [227, 228] σ0 σ69 ∧ (0 ≤ (x4_16 + 1).toInt) ∧ (ZB σ69.1) from ⟨hT, (by first | omega | decide | (simp only [Int32.le_iff_toInt_le, Int32.lt_iff_toInt_lt, ti_add, ti_sub, ti_mul, Int32.reduceToInt] at *; omega)), hB⟩) (show ((1024 : Int32).toInt - (x4_16 + 1).toInt).toNat < ((1024 : Int32).toInt - x4_16.toInt).toNat from (by first | omega | decide | (simp only [Int32.le_iff_toInt_le, Int32.lt_iff_toInt_lt, ti_add, ti_sub, ti_mul, Int32.reduceToInt] at *; omega)))
              · refine ok_aIn rfl (by first | omega | decide | (simp only [Int32.le_iff_toInt_le, Int32.lt_iff_toInt_lt, ti_add, ti_sub, ti_mul, Int32.reduceToInt] at *; omega)) (by first | omega | decide | (simp only [Int32.le_iff_toInt_le, Int32.lt_iff_toInt_lt, ti_add, ti_sub, ti_mul, Int32.reduceToInt] at *; omega)) (fun v70 ev70 => ?_)
                have zv70 : v70 = 0 ∨ v70 = 1 := by rw [ev70]; exact hB 226 rfl _
                refine ok_if (fun hc71 => ?_) (fun hc71 => ?_)
                · refine ok_gR (v := 227) hT rfl (hR 218 17 rfl) ?_
                  refine ok_s16 hT rfl (by decide) (by first | omega | decide | (simp only [Int32.le_iff_toInt_le, Int32.lt_iff_toInt_lt, ti_add, ti_sub, ti_mul, Int32.reduceToInt] at *; omega)) (by first | omega | decide | (simp only [Int32.le_iff_toInt_le, Int32.lt_iff_toInt_lt, ti_add, ti_sub, ti_mul, Int32.reduceToInt] at *; omega)) (fun σ73 eσ73 hOσ73 hT => ?_)
                  have hB : ZB σ73.1 := by first | exact HQ | exact ZB_s eσ73 hB
                  exact ih66_16 (x4_16 + 1, σ73) (show Tr [227, 228] σ0 σ73 ∧ (0 ≤ (x4_16 + 1).toInt) ∧ (ZB σ73.1) from ⟨hT, (by first | omega | decide | (simp only [Int32.le_iff_toInt_le, Int32.lt_iff_toInt_lt, ti_add, ti_sub, ti_mul, Int32.reduceToInt] at *; omega)), hB⟩) (show ((1024 : Int32).toInt - (x4_16 + 1).toInt).toNat < ((1024 : Int32).toInt - x4_16.toInt).toNat from (by first | omega | decide | (simp only [Int32.le_iff_toInt_le, Int32.lt_iff_toInt_lt, ti_add, ti_sub, ti_mul, Int32.reduceToInt] at *; omega)))
                · refine ok_gR (v := 227) hT rfl (hR 218 17 rfl) ?_
                  refine ok_s16 hT rfl (by decide) (by first | omega | decide | (simp only [Int32.le_iff_toInt_le, Int32.lt_iff_toInt_lt, ti_add, ti_sub, ti_mul, Int32.reduceToInt] at *; omega)) (by first | omega | decide | (simp only [Int32.le_iff_toInt_le, Int32.lt_iff_toInt_lt, ti_add, ti_sub, ti_mul, Int32.reduceToInt] at *; omega)) (fun σ75 eσ75 hOσ75 hT => ?_)
                  have hB : ZB σ75.1 := by first | exact HQ | exact ZB_s eσ75 hB
                  exact ih66_16 (x4_16 + 1, σ75) (show Tr [227, 228] σ0 σ75 ∧ (0 ≤ (x4_16 + 1).toInt) ∧ (ZB σ75.1) from ⟨hT, (by first | omega | decide | (simp only [Int32.le_iff_toInt_le, Int32.lt_iff_toInt_lt, ti_add, ti_sub, ti_mul, Int32.reduceToInt] at *; omega)), hB⟩) (show ((1024 : Int32).toInt - (x4_16 + 1).toInt).toNat < ((1024 : Int32).toInt - x4_16.toInt).toNat from (by first | omega | decide | (simp only [Int32.le_iff_toInt_le, Int32.lt_iff_toInt_lt, ti_add, ti_sub, ti_mul, Int32.reduceToInt] at *; omega)))
            · refine ok_if (fun hc76 => ?_) (fun hc76 => ?_)
              · rw [J_X12_turns_182.eq_1]
                refine ok_if (fun hc77 => ?_) (fun hc77 => ?_)
                · refine ok_gR (v := 227) hT rfl (hR 218 17 rfl) ?_
                  refine ok_s16 hT rfl (by decide) (by first | omega | decide | (simp only [Int32.le_iff_toInt_le, Int32.lt_iff_toInt_lt, ti_add, ti_sub, ti_mul, Int32.reduceToInt] at *; omega)) (by first | omega | decide | (simp only [Int32.le_iff_toInt_le, Int32.lt_iff_toInt_lt, ti_add, ti_sub, ti_mul, Int32.reduceToInt] at *; omega)) (fun σ79 eσ79 hOσ79 hT => ?_)
                  have hB : ZB σ79.1 := by first | exact HQ | exact ZB_s eσ79 hB
                  exact ih66_16 (x4_16 + 1, σ79) (show Tr [227, 228] σ0 σ79 ∧ (0 ≤ (x4_16 + 1).toInt) ∧ (ZB σ79.1) from ⟨hT, (by first | omega | decide | (simp only [Int32.le_iff_toInt_le, Int32.lt_iff_toInt_lt, ti_add, ti_sub, ti_mul, Int32.reduceToInt] at *; omega)), hB⟩) (show ((1024 : Int32).toInt - (x4_16 + 1).toInt).toNat < ((1024 : Int32).toInt - x4_16.toInt).toNat from (by first | omega | decide | (simp only [Int32.le_iff_toInt_le, Int32.lt_iff_toInt_lt, ti_add, ti_sub, ti_mul, Int32.reduceToInt] at *; omega)))
                · refine ok_aIn rfl (by first | omega | decide | (simp only [Int32.le_iff_toInt_le, Int32.lt_iff_toInt_lt, ti_add, ti_sub, ti_mul, Int32.reduceToInt] at *; omega)) (by first | omega | decide | (simp only [Int32.le_iff_toInt_le, Int32.lt_iff_toInt_lt, ti_add, ti_sub, ti_mul, Int32.reduceToInt] at *; omega)) (fun v80 ev80 => ?_)
                  have zv80 : v80 = 0 ∨ v80 = 1 := by rw [ev80]; exact hB 226 rfl _
                  refine ok_if (fun hc81 => ?_) (fun hc81 => ?_)
                  · refine ok_if (fun hc82 => ?_) (fun hc82 => ?_)
                    · rw [J_X12_turns_211.eq_1]
                      refine ok_gC rfl ?_
                      refine ok_zbT (Q := fun V σ => V = 0 ∨ V = 1) hT (s_X12_isNested_226 hN (hR.tr hT) (hB) (by first | exact ha | (rw [hT.2 218 (by decide)]; exact ha)) (by first | omega | decide | (simp only [Int32.le_iff_toInt_le, Int32.lt_iff_toInt_lt, ti_add, ti_sub, ti_mul, Int32.reduceToInt] at *; omega))) (fun _ h9 => absurd h9 List.not_mem_nil) (fun v83 σ84 hOσ84 hT hqv83 => ?_)
                      have hqv83 : v83 = 0 ∨ v83 = 1 := hqv83
                      have hB : ZB σ84.1 := ZB.tr hOσ84 (by decide) hB
                      refine ok_if (fun hc85 => ?_) (fun hc85 => ?_)
                      · refine ok_gR (v := 227) hT rfl (hR 218 17 rfl) ?_
                        refine ok_s16 hT rfl (by decide) (by first | omega | decide | (simp only [Int32.le_iff_toInt_le, Int32.lt_iff_toInt_lt, ti_add, ti_sub, ti_mul, Int32.reduceToInt] at *; omega)) (by first | omega | decide | (simp only [Int32.le_iff_toInt_le, Int32.lt_iff_toInt_lt, ti_add, ti_sub, ti_mul, Int32.reduceToInt] at *; omega)) (fun σ87 eσ87 hOσ87 hT => ?_)
                        have hB : ZB σ87.1 := by first | exact HQ | exact ZB_s eσ87 hB
                        exact ih66_16 (x4_16 + 1, σ87) (show Tr [227, 228] σ0 σ87 ∧ (0 ≤ (x4_16 + 1).toInt) ∧ (ZB σ87.1) from ⟨hT, (by first | omega | decide | (simp only [Int32.le_iff_toInt_le, Int32.lt_iff_toInt_lt, ti_add, ti_sub, ti_mul, Int32.reduceToInt] at *; omega)), hB⟩) (show ((1024 : Int32).toInt - (x4_16 + 1).toInt).toNat < ((1024 : Int32).toInt - x4_16.toInt).toNat from (by first | omega | decide | (simp only [Int32.le_iff_toInt_le, Int32.lt_iff_toInt_lt, ti_add, ti_sub, ti_mul, Int32.reduceToInt] at *; omega)))
                      · refine ok_gR (v := 227) hT rfl (hR 218 17 rfl) ?_
                        refine ok_s16 hT rfl (by decide) (by first | omega | decide | (simp only [Int32.le_iff_toInt_le, Int32.lt_iff_toInt_lt, ti_add, ti_sub, ti_mul, Int32.reduceToInt] at *; omega)) (by first | omega | decide | (simp only [Int32.le_iff_toInt_le, Int32.lt_iff_toInt_lt, ti_add, ti_sub, ti_mul, Int32.reduceToInt] at *; omega)) (fun σ89 eσ89 hOσ89 hT => ?_)
                        have hB : ZB σ89.1 := by first | exact HQ | exact ZB_s eσ89 hB
                        exact ih66_16 (x4_16 + 1, σ89) (show Tr [227, 228] σ0 σ89 ∧ (0 ≤ (x4_16 + 1).toInt) ∧ (ZB σ89.1) from ⟨hT, (by first | omega | decide | (simp only [Int32.le_iff_toInt_le, Int32.lt_iff_toInt_lt, ti_add, ti_sub, ti_mul, Int32.reduceToInt] at *; omega)), hB⟩) (show ((1024 : Int32).toInt - (x4_16 + 1).toInt).toNat < ((1024 : Int32).toInt - x4_16.toInt).toNat from (by first | omega | decide | (simp only [Int32.le_iff_toInt_le, Int32.lt_iff_toInt_lt, ti_add, ti_sub, ti_mul, Int32.reduceToInt] at *; omega)))
                    · rw [J_X12_turns_211.eq_1]
                      refine ok_gC rfl ?_
                      refine ok_zbT (Q := fun V σ => V = 0 ∨ V = 1) hT (s_X12_isNested_226 hN (hR.tr hT) (hB) (by first | exact ha | (rw [hT.2 218 (by decide)]; exact ha)) (by first | omega | decide | (simp only [Int32.le_iff_toInt_le, Int32.lt_iff_toInt_lt, ti_add, ti_sub, ti_mul, Int32.reduceToInt] at *; omega))) (fun _ h9 => absurd h9 List.not_mem_nil) (fun v90 σ91 hOσ91 hT hqv90 => ?_)
                      have hqv90 : v90 = 0 ∨ v90 = 1 := hqv90
                      have hB : ZB σ91.1 := ZB.tr hOσ91 (by decide) hB
                      refine ok_if (fun hc92 => ?_) (fun hc92 => ?_)
                      · refine ok_gR (v := 227) hT rfl (hR 218 17 rfl) ?_
                        refine ok_s16 hT rfl (by decide) (by first | omega | decide | (simp only [Int32.le_iff_toInt_le, Int32.lt_iff_toInt_lt, ti_add, ti_sub, ti_mul, Int32.reduceToInt] at *; omega)) (by first | omega | decide | (simp only [Int32.le_iff_toInt_le, Int32.lt_iff_toInt_lt, ti_add, ti_sub, ti_mul, Int32.reduceToInt] at *; omega)) (fun σ94 eσ94 hOσ94 hT => ?_)
                        have hB : ZB σ94.1 := by first | exact HQ | exact ZB_s eσ94 hB
                        exact ih66_16 (x4_16 + 1, σ94) (show Tr [227, 228] σ0 σ94 ∧ (0 ≤ (x4_16 + 1).toInt) ∧ (ZB σ94.1) from ⟨hT, (by first | omega | decide | (simp only [Int32.le_iff_toInt_le, Int32.lt_iff_toInt_lt, ti_add, ti_sub, ti_mul, Int32.reduceToInt] at *; omega)), hB⟩) (show ((1024 : Int32).toInt - (x4_16 + 1).toInt).toNat < ((1024 : Int32).toInt - x4_16.toInt).toNat from (by first | omega | decide | (simp only [Int32.le_iff_toInt_le, Int32.lt_iff_toInt_lt, ti_add, ti_sub, ti_mul, Int32.reduceToInt] at *; omega)))
                      · refine ok_gR (v := 227) hT rfl (hR 218 17 rfl) ?_
                        refine ok_s16 hT rfl (by decide) (by first | omega | decide | (simp only [Int32.le_iff_toInt_le, Int32.lt_iff_toInt_lt, ti_add, ti_sub, ti_mul, Int32.reduceToInt] at *; omega)) (by first | omega | decide | (simp only [Int32.le_iff_toInt_le, Int32.lt_iff_toInt_lt, ti_add, ti_sub, ti_mul, Int32.reduceToInt] at *; omega)) (fun σ96 eσ96 hOσ96 hT => ?_)
                        have hB : ZB σ96.1 := by first | exact HQ | exact ZB_s eσ96 hB
                        exact ih66_16 (x4_16 + 1, σ96) (show Tr [227, 228] σ0 σ96 ∧ (0 ≤ (x4_16 + 1).toInt) ∧ (ZB σ96.1) from ⟨hT, (by first | omega | decide | (simp only [Int32.le_iff_toInt_le, Int32.lt_iff_toInt_lt, ti_add, ti_sub, ti_mul, Int32.reduceToInt] at *; omega)), hB⟩) (show ((1024 : Int32).toInt - (x4_16 + 1).toInt).toNat < ((1024 : Int32).toInt - x4_16.toInt).toNat from (by first | omega | decide | (simp only [Int32.le_iff_toInt_le, Int32.lt_iff_toInt_lt, ti_add, ti_sub, ti_mul, Int32.reduceToInt] at *; omega)))
                  · refine ok_gR (v := 227) hT rfl (hR 218 17 rfl) ?_
                    refine ok_s16 hT rfl (by decide) (by first | omega | decide | (simp only [Int32.le_iff_toInt_le, Int32.lt_iff_toInt_lt, ti_add, ti_sub, ti_mul, Int32.reduceToInt] at *; omega)) (by first | omega | decide | (simp only [Int32.le_iff_toInt_le, Int32.lt_iff_toInt_lt, ti_add, ti_sub, ti_mul, Int32.reduceToInt] at *; omega)) (fun σ98 eσ98 hOσ98 hT => ?_)
                    have hB : ZB σ98.1 := by first | exact HQ | exact ZB_s eσ98 hB
                    exact ih66_16 (x4_16 + 1, σ98) (show Tr [227, 228] σ0 σ98 ∧ (0 ≤ (x4_16 + 1).toInt) ∧ (ZB σ98.1) from ⟨hT, (by first | omega | decide | (simp only [Int32.le_iff_toInt_le, Int32.lt_iff_toInt_lt, ti_add, ti_sub, ti_mul, Int32.reduceToInt] at *; omega)), hB⟩) (show ((1024 : Int32).toInt - (x4_16 + 1).toInt).toNat < ((1024 : Int32).toInt - x4_16.toInt).toNat from (by first | omega | decide | (simp only [Int32.le_iff_toInt_le, Int32.lt_iff_toInt_lt, ti_add, ti_sub, ti_mul, Int32.reduceToInt] at *; omega)))
              · refine ok_if (fun hc99 => ?_) (fun hc99 => ?_)
                · rw [J_X12_turns_182.eq_1]
                  refine ok_if (fun hc100 => ?_) (fun hc100 => ?_)
                  · refine ok_gR (v := 227) hT rfl (hR 218 17 rfl) ?_
                    refine ok_s16 hT rfl (by decide) (by first | omega | decide | (simp only [Int32.le_iff_toInt_le, Int32.lt_iff_toInt_lt, ti_add, ti_sub, ti_mul, Int32.reduceToInt] at *; omega)) (by first | omega | decide | (simp only [Int32.le_iff_toInt_le, Int32.lt_iff_toInt_lt, ti_add, ti_sub, ti_mul, Int32.reduceToInt] at *; omega)) (fun σ102 eσ102 hOσ102 hT => ?_)
                    have hB : ZB σ102.1 := by first | exact HQ | exact ZB_s eσ102 hB
                    exact ih66_16 (x4_16 + 1, σ102) (show Tr [227, 228] σ0 σ102 ∧ (0 ≤ (x4_16 + 1).toInt) ∧ (ZB σ102.1) from ⟨hT, (by first | omega | decide | (simp only [Int32.le_iff_toInt_le, Int32.lt_iff_toInt_lt, ti_add, ti_sub, ti_mul, Int32.reduceToInt] at *; omega)), hB⟩) (show ((1024 : Int32).toInt - (x4_16 + 1).toInt).toNat < ((1024 : Int32).toInt - x4_16.toInt).toNat from (by first | omega | decide | (simp only [Int32.le_iff_toInt_le, Int32.lt_iff_toInt_lt, ti_add, ti_sub, ti_mul, Int32.reduceToInt] at *; omega)))
                  · refine ok_aIn rfl (by first | omega | decide | (simp only [Int32.le_iff_toInt_le, Int32.lt_iff_toInt_lt, ti_add, ti_sub, ti_mul, Int32.reduceToInt] at *; omega)) (by first | omega | decide | (simp only [Int32.le_iff_toInt_le, Int32.lt_iff_toInt_lt, ti_add, ti_sub, ti_mul, Int32.reduceToInt] at *; omega)) (fun v103 ev103 => ?_)
                    have zv103 : v103 = 0 ∨ v103 = 1 := by rw [ev103]; exact hB 226 rfl _
                    refine ok_if (fun hc104 => ?_) (fun hc104 => ?_)
                    · refine ok_if (fun hc105 => ?_) (fun hc105 => ?_)
                      · rw [J_X12_turns_211.eq_1]
                        refine ok_gC rfl ?_
                        refine ok_zbT (Q := fun V σ => V = 0 ∨ V = 1) hT (s_X12_isNested_226 hN (hR.tr hT) (hB) (by first | exact ha | (rw [hT.2 218 (by decide)]; exact ha)) (by first | omega | decide | (simp only [Int32.le_iff_toInt_le, Int32.lt_iff_toInt_lt, ti_add, ti_sub, ti_mul, Int32.reduceToInt] at *; omega))) (fun _ h9 => absurd h9 List.not_mem_nil) (fun v106 σ107 hOσ107 hT hqv106 => ?_)
                        have hqv106 : v106 = 0 ∨ v106 = 1 := hqv106
                        have hB : ZB σ107.1 := ZB.tr hOσ107 (by decide) hB
                        refine ok_if (fun hc108 => ?_) (fun hc108 => ?_)
                        · refine ok_gR (v := 227) hT rfl (hR 218 17 rfl) ?_
                          refine ok_s16 hT rfl (by decide) (by first | omega | decide | (simp only [Int32.le_iff_toInt_le, Int32.lt_iff_toInt_lt, ti_add, ti_sub, ti_mul, Int32.reduceToInt] at *; omega)) (by first | omega | decide | (simp only [Int32.le_iff_toInt_le, Int32.lt_iff_toInt_lt, ti_add, ti_sub, ti_mul, Int32.reduceToInt] at *; omega)) (fun σ110 eσ110 hOσ110 hT => ?_)
                          have hB : ZB σ110.1 := by first | exact HQ | exact ZB_s eσ110 hB
                          exact ih66_16 (x4_16 + 1, σ110) (show Tr [227, 228] σ0 σ110 ∧ (0 ≤ (x4_16 + 1).toInt) ∧ (ZB σ110.1) from ⟨hT, (by first | omega | decide | (simp only [Int32.le_iff_toInt_le, Int32.lt_iff_toInt_lt, ti_add, ti_sub, ti_mul, Int32.reduceToInt] at *; omega)), hB⟩) (show ((1024 : Int32).toInt - (x4_16 + 1).toInt).toNat < ((1024 : Int32).toInt - x4_16.toInt).toNat from (by first | omega | decide | (simp only [Int32.le_iff_toInt_le, Int32.lt_iff_toInt_lt, ti_add, ti_sub, ti_mul, Int32.reduceToInt] at *; omega)))
                        · refine ok_gR (v := 227) hT rfl (hR 218 17 rfl) ?_
                          refine ok_s16 hT rfl (by decide) (by first | omega | decide | (simp only [Int32.le_iff_toInt_le, Int32.lt_iff_toInt_lt, ti_add, ti_sub, ti_mul, Int32.reduceToInt] at *; omega)) (by first | omega | decide | (simp only [Int32.le_iff_toInt_le, Int32.lt_iff_toInt_lt, ti_add, ti_sub, ti_mul, Int32.reduceToInt] at *; omega)) (fun σ112 eσ112 hOσ112 hT => ?_)
                          have hB : ZB σ112.1 := by first | exact HQ | exact ZB_s eσ112 hB
                          exact ih66_16 (x4_16 + 1, σ112) (show Tr [227, 228] σ0 σ112 ∧ (0 ≤ (x4_16 + 1).toInt) ∧ (ZB σ112.1) from ⟨hT, (by first | omega | decide | (simp only [Int32.le_iff_toInt_le, Int32.lt_iff_toInt_lt, ti_add, ti_sub, ti_mul, Int32.reduceToInt] at *; omega)), hB⟩) (show ((1024 : Int32).toInt - (x4_16 + 1).toInt).toNat < ((1024 : Int32).toInt - x4_16.toInt).toNat from (by first | omega | decide | (simp only [Int32.le_iff_toInt_le, Int32.lt_iff_toInt_lt, ti_add, ti_sub, ti_mul, Int32.reduceToInt] at *; omega)))
                      · rw [J_X12_turns_211.eq_1]
                        refine ok_gC rfl ?_
                        refine ok_zbT (Q := fun V σ => V = 0 ∨ V = 1) hT (s_X12_isNested_226 hN (hR.tr hT) (hB) (by first | exact ha | (rw [hT.2 218 (by decide)]; exact ha)) (by first | omega | decide | (simp only [Int32.le_iff_toInt_le, Int32.lt_iff_toInt_lt, ti_add, ti_sub, ti_mul, Int32.reduceToInt] at *; omega))) (fun _ h9 => absurd h9 List.not_mem_nil) (fun v113 σ114 hOσ114 hT hqv113 => ?_)
                        have hqv113 : v113 = 0 ∨ v113 = 1 := hqv113
                        have hB : ZB σ114.1 := ZB.tr hOσ114 (by decide) hB
                        refine ok_if (fun hc115 => ?_) (fun hc115 => ?_)
                        · refine ok_gR (v := 227) hT rfl (hR 218 17 rfl) ?_
                          refine ok_s16 hT rfl (by decide) (by first | omega | decide | (simp only [Int32.le_iff_toInt_le, Int32.lt_iff_toInt_lt, ti_add, ti_sub, ti_mul, Int32.reduceToInt] at *; omega)) (by first | omega | decide | (simp only [Int32.le_iff_toInt_le, Int32.lt_iff_toInt_lt, ti_add, ti_sub, ti_mul, Int32.reduceToInt] at *; omega)) (fun σ117 eσ117 hOσ117 hT => ?_)
                          have hB : ZB σ117.1 := by first | exact HQ | exact ZB_s eσ117 hB
                          exact ih66_16 (x4_16 + 1, σ117) (show Tr [227, 228] σ0 σ117 ∧ (0 ≤ (x4_16 + 1).toInt) ∧ (ZB σ117.1) from ⟨hT, (by first | omega | decide | (simp only [Int32.le_iff_toInt_le, Int32.lt_iff_toInt_lt, ti_add, ti_sub, ti_mul, Int32.reduceToInt] at *; omega)), hB⟩) (show ((1024 : Int32).toInt - (x4_16 + 1).toInt).toNat < ((1024 : Int32).toInt - x4_16.toInt).toNat from (by first | omega | decide | (simp only [Int32.le_iff_toInt_le, Int32.lt_iff_toInt_lt, ti_add, ti_sub, ti_mul, Int32.reduceToInt] at *; omega)))
                        · refine ok_gR (v := 227) hT rfl (hR 218 17 rfl) ?_
                          refine ok_s16 hT rfl (by decide) (by first | omega | decide | (simp only [Int32.le_iff_toInt_le, Int32.lt_iff_toInt_lt, ti_add, ti_sub, ti_mul, Int32.reduceToInt] at *; omega)) (by first | omega | decide | (simp only [Int32.le_iff_toInt_le, Int32.lt_iff_toInt_lt, ti_add, ti_sub, ti_mul, Int32.reduceToInt] at *; omega)) (fun σ119 eσ119 hOσ119 hT => ?_)
                          have hB : ZB σ119.1 := by first | exact HQ | exact ZB_s eσ119 hB
                          exact ih66_16 (x4_16 + 1, σ119) (show Tr [227, 228] σ0 σ119 ∧ (0 ≤ (x4_16 + 1).toInt) ∧ (ZB σ119.1) from ⟨hT, (by first | omega | decide | (simp only [Int32.le_iff_toInt_le, Int32.lt_iff_toInt_lt, ti_add, ti_sub, ti_mul, Int32.reduceToInt] at *; omega)), hB⟩) (show ((1024 : Int32).toInt - (x4_16 + 1).toInt).toNat < ((1024 : Int32).toInt - x4_16.toInt).toNat from (by first | omega | decide | (simp only [Int32.le_iff_toInt_le, Int32.lt_iff_toInt_lt, ti_add, ti_sub, ti_mul, Int32.reduceToInt] at *; omega)))
                    · refine ok_gR (v := 227) hT rfl (hR 218 17 rfl) ?_
                      refine ok_s16 hT rfl (by decide) (by first | omega | decide | (simp only [Int32.le_iff_toInt_le, Int32.lt_iff_toInt_lt, ti_add, ti_sub, ti_mul, Int32.reduceToInt] at *; omega)) (by first | omega | decide | (simp only [Int32.le_iff_toInt_le, Int32.lt_iff_toInt_lt, ti_add, ti_sub, ti_mul, Int32.reduceToInt] at *; omega)) (fun σ121 eσ121 hOσ121 hT => ?_)
                      have hB : ZB σ121.1 := by first | exact HQ | exact ZB_s eσ121 hB
                      exact ih66_16 (x4_16 + 1, σ121) (show Tr [227, 228] σ0 σ121 ∧ (0 ≤ (x4_16 + 1).toInt) ∧ (ZB σ121.1) from ⟨hT, (by first | omega | decide | (simp only [Int32.le_iff_toInt_le, Int32.lt_iff_toInt_lt, ti_add, ti_sub, ti_mul, Int32.reduceToInt] at *; omega)), hB⟩) (show ((1024 : Int32).toInt - (x4_16 + 1).toInt).toNat < ((1024 : Int32).toInt - x4_16.toInt).toNat from (by first | omega | decide | (simp only [Int32.le_iff_toInt_le, Int32.lt_iff_toInt_lt, ti_add, ti_sub, ti_mul, Int32.reduceToInt] at *; omega)))
                · refine ok_if (fun hc122 => ?_) (fun hc122 => ?_)
                  · refine ok_gR (v := 227) hT rfl (hR 218 17 rfl) ?_
                    refine ok_s16 hT rfl (by decide) (by first | omega | decide | (simp only [Int32.le_iff_toInt_le, Int32.lt_iff_toInt_lt, ti_add, ti_sub, ti_mul, Int32.reduceToInt] at *; omega)) (by first | omega | decide | (simp only [Int32.le_iff_toInt_le, Int32.lt_iff_toInt_lt, ti_add, ti_sub, ti_mul, Int32.reduceToInt] at *; omega)) (fun σ124 eσ124 hOσ124 hT => ?_)
                    have hB : ZB σ124.1 := by first | exact HQ | exact ZB_s eσ124 hB
                    exact ih66_16 (x4_16 + 1, σ124) (show Tr [227, 228] σ0 σ124 ∧ (0 ≤ (x4_16 + 1).toInt) ∧ (ZB σ124.1) from ⟨hT, (by first | omega | decide | (simp only [Int32.le_iff_toInt_le, Int32.lt_iff_toInt_lt, ti_add, ti_sub, ti_mul, Int32.reduceToInt] at *; omega)), hB⟩) (show ((1024 : Int32).toInt - (x4_16 + 1).toInt).toNat < ((1024 : Int32).toInt - x4_16.toInt).toNat from (by first | omega | decide | (simp only [Int32.le_iff_toInt_le, Int32.lt_iff_toInt_lt, ti_add, ti_sub, ti_mul, Int32.reduceToInt] at *; omega)))
                  · refine ok_aIn rfl (by first | omega | decide | (simp only [Int32.le_iff_toInt_le, Int32.lt_iff_toInt_lt, ti_add, ti_sub, ti_mul, Int32.reduceToInt] at *; omega)) (by first | omega | decide | (simp only [Int32.le_iff_toInt_le, Int32.lt_iff_toInt_lt, ti_add, ti_sub, ti_mul, Int32.reduceToInt] at *; omega)) (fun v125 ev125 => ?_)
                    have zv125 : v125 = 0 ∨ v125 = 1 := by rw [ev125]; exact hB 226 rfl _
                    refine ok_if (fun hc126 => ?_) (fun hc126 => ?_)
                    · refine ok_gR (v := 227) hT rfl (hR 218 17 rfl) ?_
                      refine ok_s16 hT rfl (by decide) (by first | omega | decide | (simp only [Int32.le_iff_toInt_le, Int32.lt_iff_toInt_lt, ti_add, ti_sub, ti_mul, Int32.reduceToInt] at *; omega)) (by first | omega | decide | (simp only [Int32.le_iff_toInt_le, Int32.lt_iff_toInt_lt, ti_add, ti_sub, ti_mul, Int32.reduceToInt] at *; omega)) (fun σ128 eσ128 hOσ128 hT => ?_)
                      have hB : ZB σ128.1 := by first | exact HQ | exact ZB_s eσ128 hB
                      exact ih66_16 (x4_16 + 1, σ128) (show Tr [227, 228] σ0 σ128 ∧ (0 ≤ (x4_16 + 1).toInt) ∧ (ZB σ128.1) from ⟨hT, (by first | omega | decide | (simp only [Int32.le_iff_toInt_le, Int32.lt_iff_toInt_lt, ti_add, ti_sub, ti_mul, Int32.reduceToInt] at *; omega)), hB⟩) (show ((1024 : Int32).toInt - (x4_16 + 1).toInt).toNat < ((1024 : Int32).toInt - x4_16.toInt).toNat from (by first | omega | decide | (simp only [Int32.le_iff_toInt_le, Int32.lt_iff_toInt_lt, ti_add, ti_sub, ti_mul, Int32.reduceToInt] at *; omega)))
                    · refine ok_gR (v := 227) hT rfl (hR 218 17 rfl) ?_
                      refine ok_s16 hT rfl (by decide) (by first | omega | decide | (simp only [Int32.le_iff_toInt_le, Int32.lt_iff_toInt_lt, ti_add, ti_sub, ti_mul, Int32.reduceToInt] at *; omega)) (by first | omega | decide | (simp only [Int32.le_iff_toInt_le, Int32.lt_iff_toInt_lt, ti_add, ti_sub, ti_mul, Int32.reduceToInt] at *; omega)) (fun σ130 eσ130 hOσ130 hT => ?_)
                      have hB : ZB σ130.1 := by first | exact HQ | exact ZB_s eσ130 hB
                      exact ih66_16 (x4_16 + 1, σ130) (show Tr [227, 228] σ0 σ130 ∧ (0 ≤ (x4_16 + 1).toInt) ∧ (ZB σ130.1) from ⟨hT, (by first | omega | decide | (simp only [Int32.le_iff_toInt_le, Int32.lt_iff_toInt_lt, ti_add, ti_sub, ti_mul, Int32.reduceToInt] at *; omega)), hB⟩) (show ((1024 : Int32).toInt - (x4_16 + 1).toInt).toNat < ((1024 : Int32).toInt - x4_16.toInt).toNat from (by first | omega | decide | (simp only [Int32.le_iff_toInt_le, Int32.lt_iff_toInt_lt, ti_add, ti_sub, ti_mul, Int32.reduceToInt] at *; omega)))
      · rw [J_X12_turns_88.eq_1]
        refine ok_if (fun hc131 => ?_) (fun hc131 => ?_)
        · rw [J_X12_turns_99.eq_1]
          refine ok_if (fun hc132 => ?_) (fun hc132 => ?_)
          · refine ok_gR (v := 227) hT rfl (hR 218 17 rfl) ?_
            refine ok_s16 hT rfl (by decide) (by first | omega | decide | (simp only [Int32.le_iff_toInt_le, Int32.lt_iff_toInt_lt, ti_add, ti_sub, ti_mul, Int32.reduceToInt] at *; omega)) (by first | omega | decide | (simp only [Int32.le_iff_toInt_le, Int32.lt_iff_toInt_lt, ti_add, ti_sub, ti_mul, Int32.reduceToInt] at *; omega)) (fun σ134 eσ134 hOσ134 hT => ?_)
            have hB : ZB σ134.1 := by first | exact HQ | exact ZB_s eσ134 hB
            exact ih66_16 (x4_16 + 1, σ134) (show Tr [227, 228] σ0 σ134 ∧ (0 ≤ (x4_16 + 1).toInt) ∧ (ZB σ134.1) from ⟨hT, (by first | omega | decide | (simp only [Int32.le_iff_toInt_le, Int32.lt_iff_toInt_lt, ti_add, ti_sub, ti_mul, Int32.reduceToInt] at *; omega)), hB⟩) (show ((1024 : Int32).toInt - (x4_16 + 1).toInt).toNat < ((1024 : Int32).toInt - x4_16.toInt).toNat from (by first | omega | decide | (simp only [Int32.le_iff_toInt_le, Int32.lt_iff_toInt_lt, ti_add, ti_sub, ti_mul, Int32.reduceToInt] at *; omega)))
          · refine ok_aIn rfl (by first | omega | decide | (simp only [Int32.le_iff_toInt_le, Int32.lt_iff_toInt_lt, ti_add, ti_sub, ti_mul, Int32.reduceToInt] at *; omega)) (by first | omega | decide | (simp only [Int32.le_iff_toInt_le, Int32.lt_iff_toInt_lt, ti_add, ti_sub, ti_mul, Int32.reduceToInt] at *; omega)) (fun v135 ev135 => ?_)
            have zv135 : v135 = 0 ∨ v135 = 1 := by rw [ev135]; exact hB 226 rfl _
            refine ok_if (fun hc136 => ?_) (fun hc136 => ?_)
            · refine ok_gR (v := 227) hT rfl (hR 218 17 rfl) ?_
              refine ok_s16 hT rfl (by decide) (by first | omega | decide | (simp only [Int32.le_iff_toInt_le, Int32.lt_iff_toInt_lt, ti_add, ti_sub, ti_mul, Int32.reduceToInt] at *; omega)) (by first | omega | decide | (simp only [Int32.le_iff_toInt_le, Int32.lt_iff_toInt_lt, ti_add, ti_sub, ti_mul, Int32.reduceToInt] at *; omega)) (fun σ138 eσ138 hOσ138 hT => ?_)
              have hB : ZB σ138.1 := by first | exact HQ | exact ZB_s eσ138 hB
              exact ih66_16 (x4_16 + 1, σ138) (show Tr [227, 228] σ0 σ138 ∧ (0 ≤ (x4_16 + 1).toInt) ∧ (ZB σ138.1) from ⟨hT, (by first | omega | decide | (simp only [Int32.le_iff_toInt_le, Int32.lt_iff_toInt_lt, ti_add, ti_sub, ti_mul, Int32.reduceToInt] at *; omega)), hB⟩) (show ((1024 : Int32).toInt - (x4_16 + 1).toInt).toNat < ((1024 : Int32).toInt - x4_16.toInt).toNat from (by first | omega | decide | (simp only [Int32.le_iff_toInt_le, Int32.lt_iff_toInt_lt, ti_add, ti_sub, ti_mul, Int32.reduceToInt] at *; omega)))
            · refine ok_if (fun hc139 => ?_) (fun hc139 => ?_)
              · rw [J_X12_turns_127.eq_1]
                refine ok_gC rfl ?_
                refine ok_zbT (Q := fun V σ => V = 0 ∨ V = 1) hT (s_X12_isNested_226 hN (hR.tr hT) (hB) (by first | exact ha | (rw [hT.2 218 (by decide)]; exact ha)) (by first | omega | decide | (simp only [Int32.le_iff_toInt_le, Int32.lt_iff_toInt_lt, ti_add, ti_sub, ti_mul, Int32.reduceToInt] at *; omega))) (fun _ h9 => absurd h9 List.not_mem_nil) (fun v140 σ141 hOσ141 hT hqv140 => ?_)
                have hqv140 : v140 = 0 ∨ v140 = 1 := hqv140
                have hB : ZB σ141.1 := ZB.tr hOσ141 (by decide) hB
                refine ok_if (fun hc142 => ?_) (fun hc142 => ?_)
                · refine ok_gR (v := 227) hT rfl (hR 218 17 rfl) ?_
                  refine ok_s16 hT rfl (by decide) (by first | omega | decide | (simp only [Int32.le_iff_toInt_le, Int32.lt_iff_toInt_lt, ti_add, ti_sub, ti_mul, Int32.reduceToInt] at *; omega)) (by first | omega | decide | (simp only [Int32.le_iff_toInt_le, Int32.lt_iff_toInt_lt, ti_add, ti_sub, ti_mul, Int32.reduceToInt] at *; omega)) (fun σ144 eσ144 hOσ144 hT => ?_)
                  have hB : ZB σ144.1 := by first | exact HQ | exact ZB_s eσ144 hB
                  exact ih66_16 (x4_16 + 1, σ144) (show Tr [227, 228] σ0 σ144 ∧ (0 ≤ (x4_16 + 1).toInt) ∧ (ZB σ144.1) from ⟨hT, (by first | omega | decide | (simp only [Int32.le_iff_toInt_le, Int32.lt_iff_toInt_lt, ti_add, ti_sub, ti_mul, Int32.reduceToInt] at *; omega)), hB⟩) (show ((1024 : Int32).toInt - (x4_16 + 1).toInt).toNat < ((1024 : Int32).toInt - x4_16.toInt).toNat from (by first | omega | decide | (simp only [Int32.le_iff_toInt_le, Int32.lt_iff_toInt_lt, ti_add, ti_sub, ti_mul, Int32.reduceToInt] at *; omega)))
                · refine ok_gR (v := 227) hT rfl (hR 218 17 rfl) ?_
                  refine ok_s16 hT rfl (by decide) (by first | omega | decide | (simp only [Int32.le_iff_toInt_le, Int32.lt_iff_toInt_lt, ti_add, ti_sub, ti_mul, Int32.reduceToInt] at *; omega)) (by first | omega | decide | (simp only [Int32.le_iff_toInt_le, Int32.lt_iff_toInt_lt, ti_add, ti_sub, ti_mul, Int32.reduceToInt] at *; omega)) (fun σ146 eσ146 hOσ146 hT => ?_)
                  have hB : ZB σ146.1 := by first | exact HQ | exact ZB_s eσ146 hB
                  exact ih66_16 (x4_16 + 1, σ146) (show Tr [227, 228] σ0 σ146 ∧ (0 ≤ (x4_16 + 1).toInt) ∧ (ZB σ146.1) from ⟨hT, (by first | omega | decide | (simp only [Int32.le_iff_toInt_le, Int32.lt_iff_toInt_lt, ti_add, ti_sub, ti_mul, Int32.reduceToInt] at *; omega)), hB⟩) (show ((1024 : Int32).toInt - (x4_16 + 1).toInt).toNat < ((1024 : Int32).toInt - x4_16.toInt).toNat from (by first | omega | decide | (simp only [Int32.le_iff_toInt_le, Int32.lt_iff_toInt_lt, ti_add, ti_sub, ti_mul, Int32.reduceToInt] at *; omega)))
              · rw [J_X12_turns_127.eq_1]
                refine ok_gC rfl ?_
                refine ok_zbT (Q := fun V σ => V = 0 ∨ V = 1) hT (s_X12_isNested_226 hN (hR.tr hT) (hB) (by first | exact ha | (rw [hT.2 218 (by decide)]; exact ha)) (by first | omega | decide | (simp only [Int32.le_iff_toInt_le, Int32.lt_iff_toInt_lt, ti_add, ti_sub, ti_mul, Int32.reduceToInt] at *; omega))) (fun _ h9 => absurd h9 List.not_mem_nil) (fun v147 σ148 hOσ148 hT hqv147 => ?_)
                have hqv147 : v147 = 0 ∨ v147 = 1 := hqv147
                have hB : ZB σ148.1 := ZB.tr hOσ148 (by decide) hB
                refine ok_if (fun hc149 => ?_) (fun hc149 => ?_)
                · refine ok_gR (v := 227) hT rfl (hR 218 17 rfl) ?_
                  refine ok_s16 hT rfl (by decide) (by first | omega | decide | (simp only [Int32.le_iff_toInt_le, Int32.lt_iff_toInt_lt, ti_add, ti_sub, ti_mul, Int32.reduceToInt] at *; omega)) (by first | omega | decide | (simp only [Int32.le_iff_toInt_le, Int32.lt_iff_toInt_lt, ti_add, ti_sub, ti_mul, Int32.reduceToInt] at *; omega)) (fun σ151 eσ151 hOσ151 hT => ?_)
                  have hB : ZB σ151.1 := by first | exact HQ | exact ZB_s eσ151 hB
                  exact ih66_16 (x4_16 + 1, σ151) (show Tr [227, 228] σ0 σ151 ∧ (0 ≤ (x4_16 + 1).toInt) ∧ (ZB σ151.1) from ⟨hT, (by first | omega | decide | (simp only [Int32.le_iff_toInt_le, Int32.lt_iff_toInt_lt, ti_add, ti_sub, ti_mul, Int32.reduceToInt] at *; omega)), hB⟩) (show ((1024 : Int32).toInt - (x4_16 + 1).toInt).toNat < ((1024 : Int32).toInt - x4_16.toInt).toNat from (by first | omega | decide | (simp only [Int32.le_iff_toInt_le, Int32.lt_iff_toInt_lt, ti_add, ti_sub, ti_mul, Int32.reduceToInt] at *; omega)))
                · refine ok_gR (v := 227) hT rfl (hR 218 17 rfl) ?_
                  refine ok_s16 hT rfl (by decide) (by first | omega | decide | (simp only [Int32.le_iff_toInt_le, Int32.lt_iff_toInt_lt, ti_add, ti_sub, ti_mul, Int32.reduceToInt] at *; omega)) (by first | omega | decide | (simp only [Int32.le_iff_toInt_le, Int32.lt_iff_toInt_lt, ti_add, ti_sub, ti_mul, Int32.reduceToInt] at *; omega)) (fun σ153 eσ153 hOσ153 hT => ?_)
                  have hB : ZB σ153.1 := by first | exact HQ | exact ZB_s eσ153 hB
                  exact ih66_16 (x4_16 + 1, σ153) (show Tr [227, 228] σ0 σ153 ∧ (0 ≤ (x4_16 + 1).toInt) ∧ (ZB σ153.1) from ⟨hT, (by first | omega | decide | (simp only [Int32.le_iff_toInt_le, Int32.lt_iff_toInt_lt, ti_add, ti_sub, ti_mul, Int32.reduceToInt] at *; omega)), hB⟩) (show ((1024 : Int32).toInt - (x4_16 + 1).toInt).toNat < ((1024 : Int32).toInt - x4_16.toInt).toNat from (by first | omega | decide | (simp only [Int32.le_iff_toInt_le, Int32.lt_iff_toInt_lt, ti_add, ti_sub, ti_mul, Int32.reduceToInt] at *; omega)))
        · refine ok_if (fun hc154 => ?_) (fun hc154 => ?_)
          · rw [J_X12_turns_99.eq_1]
            refine ok_if (fun hc155 => ?_) (fun hc155 => ?_)
            · refine ok_gR (v := 227) hT rfl (hR 218 17 rfl) ?_
              refine ok_s16 hT rfl (by decide) (by first | omega | decide | (simp only [Int32.le_iff_toInt_le, Int32.lt_iff_toInt_lt, ti_add, ti_sub, ti_mul, Int32.reduceToInt] at *; omega)) (by first | omega | decide | (simp only [Int32.le_iff_toInt_le, Int32.lt_iff_toInt_lt, ti_add, ti_sub, ti_mul, Int32.reduceToInt] at *; omega)) (fun σ157 eσ157 hOσ157 hT => ?_)
              have hB : ZB σ157.1 := by first | exact HQ | exact ZB_s eσ157 hB
              exact ih66_16 (x4_16 + 1, σ157) (show Tr [227, 228] σ0 σ157 ∧ (0 ≤ (x4_16 + 1).toInt) ∧ (ZB σ157.1) from ⟨hT, (by first | omega | decide | (simp only [Int32.le_iff_toInt_le, Int32.lt_iff_toInt_lt, ti_add, ti_sub, ti_mul, Int32.reduceToInt] at *; omega)), hB⟩) (show ((1024 : Int32).toInt - (x4_16 + 1).toInt).toNat < ((1024 : Int32).toInt - x4_16.toInt).toNat from (by first | omega | decide | (simp only [Int32.le_iff_toInt_le, Int32.lt_iff_toInt_lt, ti_add, ti_sub, ti_mul, Int32.reduceToInt] at *; omega)))
            · refine ok_aIn rfl (by first | omega | decide | (simp only [Int32.le_iff_toInt_le, Int32.lt_iff_toInt_lt, ti_add, ti_sub, ti_mul, Int32.reduceToInt] at *; omega)) (by first | omega | decide | (simp only [Int32.le_iff_toInt_le, Int32.lt_iff_toInt_lt, ti_add, ti_sub, ti_mul, Int32.reduceToInt] at *; omega)) (fun v158 ev158 => ?_)
              have zv158 : v158 = 0 ∨ v158 = 1 := by rw [ev158]; exact hB 226 rfl _
              refine ok_if (fun hc159 => ?_) (fun hc159 => ?_)
              · refine ok_gR (v := 227) hT rfl (hR 218 17 rfl) ?_
                refine ok_s16 hT rfl (by decide) (by first | omega | decide | (simp only [Int32.le_iff_toInt_le, Int32.lt_iff_toInt_lt, ti_add, ti_sub, ti_mul, Int32.reduceToInt] at *; omega)) (by first | omega | decide | (simp only [Int32.le_iff_toInt_le, Int32.lt_iff_toInt_lt, ti_add, ti_sub, ti_mul, Int32.reduceToInt] at *; omega)) (fun σ161 eσ161 hOσ161 hT => ?_)
                have hB : ZB σ161.1 := by first | exact HQ | exact ZB_s eσ161 hB
                exact ih66_16 (x4_16 + 1, σ161) (show Tr [227, 228] σ0 σ161 ∧ (0 ≤ (x4_16 + 1).toInt) ∧ (ZB σ161.1) from ⟨hT, (by first | omega | decide | (simp only [Int32.le_iff_toInt_le, Int32.lt_iff_toInt_lt, ti_add, ti_sub, ti_mul, Int32.reduceToInt] at *; omega)), hB⟩) (show ((1024 : Int32).toInt - (x4_16 + 1).toInt).toNat < ((1024 : Int32).toInt - x4_16.toInt).toNat from (by first | omega | decide | (simp only [Int32.le_iff_toInt_le, Int32.lt_iff_toInt_lt, ti_add, ti_sub, ti_mul, Int32.reduceToInt] at *; omega)))
              · refine ok_if (fun hc162 => ?_) (fun hc162 => ?_)
                · rw [J_X12_turns_127.eq_1]
                  refine ok_gC rfl ?_
                  refine ok_zbT (Q := fun V σ => V = 0 ∨ V = 1) hT (s_X12_isNested_226 hN (hR.tr hT) (hB) (by first | exact ha | (rw [hT.2 218 (by decide)]; exact ha)) (by first | omega | decide | (simp only [Int32.le_iff_toInt_le, Int32.lt_iff_toInt_lt, ti_add, ti_sub, ti_mul, Int32.reduceToInt] at *; omega))) (fun _ h9 => absurd h9 List.not_mem_nil) (fun v163 σ164 hOσ164 hT hqv163 => ?_)
                  have hqv163 : v163 = 0 ∨ v163 = 1 := hqv163
                  have hB : ZB σ164.1 := ZB.tr hOσ164 (by decide) hB
                  refine ok_if (fun hc165 => ?_) (fun hc165 => ?_)
                  · refine ok_gR (v := 227) hT rfl (hR 218 17 rfl) ?_
                    refine ok_s16 hT rfl (by decide) (by first | omega | decide | (simp only [Int32.le_iff_toInt_le, Int32.lt_iff_toInt_lt, ti_add, ti_sub, ti_mul, Int32.reduceToInt] at *; omega)) (by first | omega | decide | (simp only [Int32.le_iff_toInt_le, Int32.lt_iff_toInt_lt, ti_add, ti_sub, ti_mul, Int32.reduceToInt] at *; omega)) (fun σ167 eσ167 hOσ167 hT => ?_)
                    have hB : ZB σ167.1 := by first | exact HQ | exact ZB_s eσ167 hB
                    exact ih66_16 (x4_16 + 1, σ167) (show Tr [227, 228] σ0 σ167 ∧ (0 ≤ (x4_16 + 1).toInt) ∧ (ZB σ167.1) from ⟨hT, (by first | omega | decide | (simp only [Int32.le_iff_toInt_le, Int32.lt_iff_toInt_lt, ti_add, ti_sub, ti_mul, Int32.reduceToInt] at *; omega)), hB⟩) (show ((1024 : Int32).toInt - (x4_16 + 1).toInt).toNat < ((1024 : Int32).toInt - x4_16.toInt).toNat from (by first | omega | decide | (simp only [Int32.le_iff_toInt_le, Int32.lt_iff_toInt_lt, ti_add, ti_sub, ti_mul, Int32.reduceToInt] at *; omega)))
                  · refine ok_gR (v := 227) hT rfl (hR 218 17 rfl) ?_
                    refine ok_s16 hT rfl (by decide) (by first | omega | decide | (simp only [Int32.le_iff_toInt_le, Int32.lt_iff_toInt_lt, ti_add, ti_sub, ti_mul, Int32.reduceToInt] at *; omega)) (by first | omega | decide | (simp only [Int32.le_iff_toInt_le, Int32.lt_iff_toInt_lt, ti_add, ti_sub, ti_mul, Int32.reduceToInt] at *; omega)) (fun σ169 eσ169 hOσ169 hT => ?_)
                    have hB : ZB σ169.1 := by first | exact HQ | exact ZB_s eσ169 hB
                    exact ih66_16 (x4_16 + 1, σ169) (show Tr [227, 228] σ0 σ169 ∧ (0 ≤ (x4_16 + 1).toInt) ∧ (ZB σ169.1) from ⟨hT, (by first | omega | decide | (simp only [Int32.le_iff_toInt_le, Int32.lt_iff_toInt_lt, ti_add, ti_sub, ti_mul, Int32.reduceToInt] at *; omega)), hB⟩) (show ((1024 : Int32).toInt - (x4_16 + 1).toInt).toNat < ((1024 : Int32).toInt - x4_16.toInt).toNat from (by first | omega | decide | (simp only [Int32.le_iff_toInt_le, Int32.lt_iff_toInt_lt, ti_add, ti_sub, ti_mul, Int32.reduceToInt] at *; omega)))
                · rw [J_X12_turns_127.eq_1]
                  refine ok_gC rfl ?_
                  refine ok_zbT (Q := fun V σ => V = 0 ∨ V = 1) hT (s_X12_isNested_226 hN (hR.tr hT) (hB) (by first | exact ha | (rw [hT.2 218 (by decide)]; exact ha)) (by first | omega | decide | (simp only [Int32.le_iff_toInt_le, Int32.lt_iff_toInt_lt, ti_add, ti_sub, ti_mul, Int32.reduceToInt] at *; omega))) (fun _ h9 => absurd h9 List.not_mem_nil) (fun v170 σ171 hOσ171 hT hqv170 => ?_)
                  have hqv170 : v170 = 0 ∨ v170 = 1 := hqv170
                  have hB : ZB σ171.1 := ZB.tr hOσ171 (by decide) hB
                  refine ok_if (fun hc172 => ?_) (fun hc172 => ?_)
                  · refine ok_gR (v := 227) hT rfl (hR 218 17 rfl) ?_
                    refine ok_s16 hT rfl (by decide) (by first | omega | decide | (simp only [Int32.le_iff_toInt_le, Int32.lt_iff_toInt_lt, ti_add, ti_sub, ti_mul, Int32.reduceToInt] at *; omega)) (by first | omega | decide | (simp only [Int32.le_iff_toInt_le, Int32.lt_iff_toInt_lt, ti_add, ti_sub, ti_mul, Int32.reduceToInt] at *; omega)) (fun σ174 eσ174 hOσ174 hT => ?_)
                    have hB : ZB σ174.1 := by first | exact HQ | exact ZB_s eσ174 hB
                    exact ih66_16 (x4_16 + 1, σ174) (show Tr [227, 228] σ0 σ174 ∧ (0 ≤ (x4_16 + 1).toInt) ∧ (ZB σ174.1) from ⟨hT, (by first | omega | decide | (simp only [Int32.le_iff_toInt_le, Int32.lt_iff_toInt_lt, ti_add, ti_sub, ti_mul, Int32.reduceToInt] at *; omega)), hB⟩) (show ((1024 : Int32).toInt - (x4_16 + 1).toInt).toNat < ((1024 : Int32).toInt - x4_16.toInt).toNat from (by first | omega | decide | (simp only [Int32.le_iff_toInt_le, Int32.lt_iff_toInt_lt, ti_add, ti_sub, ti_mul, Int32.reduceToInt] at *; omega)))
                  · refine ok_gR (v := 227) hT rfl (hR 218 17 rfl) ?_
                    refine ok_s16 hT rfl (by decide) (by first | omega | decide | (simp only [Int32.le_iff_toInt_le, Int32.lt_iff_toInt_lt, ti_add, ti_sub, ti_mul, Int32.reduceToInt] at *; omega)) (by first | omega | decide | (simp only [Int32.le_iff_toInt_le, Int32.lt_iff_toInt_lt, ti_add, ti_sub, ti_mul, Int32.reduceToInt] at *; omega)) (fun σ176 eσ176 hOσ176 hT => ?_)
                    have hB : ZB σ176.1 := by first | exact HQ | exact ZB_s eσ176 hB
                    exact ih66_16 (x4_16 + 1, σ176) (show Tr [227, 228] σ0 σ176 ∧ (0 ≤ (x4_16 + 1).toInt) ∧ (ZB σ176.1) from ⟨hT, (by first | omega | decide | (simp only [Int32.le_iff_toInt_le, Int32.lt_iff_toInt_lt, ti_add, ti_sub, ti_mul, Int32.reduceToInt] at *; omega)), hB⟩) (show ((1024 : Int32).toInt - (x4_16 + 1).toInt).toNat < ((1024 : Int32).toInt - x4_16.toInt).toNat from (by first | omega | decide | (simp only [Int32.le_iff_toInt_le, Int32.lt_iff_toInt_lt, ti_add, ti_sub, ti_mul, Int32.reduceToInt] at *; omega)))
          · refine ok_if (fun hc177 => ?_) (fun hc177 => ?_)
            · refine ok_if (fun hc178 => ?_) (fun hc178 => ?_)
              · refine ok_gR (v := 227) hT rfl (hR 218 17 rfl) ?_
                refine ok_s16 hT rfl (by decide) (by first | omega | decide | (simp only [Int32.le_iff_toInt_le, Int32.lt_iff_toInt_lt, ti_add, ti_sub, ti_mul, Int32.reduceToInt] at *; omega)) (by first | omega | decide | (simp only [Int32.le_iff_toInt_le, Int32.lt_iff_toInt_lt, ti_add, ti_sub, ti_mul, Int32.reduceToInt] at *; omega)) (fun σ180 eσ180 hOσ180 hT => ?_)
                have hB : ZB σ180.1 := by first | exact HQ | exact ZB_s eσ180 hB
                exact ih66_16 (x4_16 + 1, σ180) (show Tr [227, 228] σ0 σ180 ∧ (0 ≤ (x4_16 + 1).toInt) ∧ (ZB σ180.1) from ⟨hT, (by first | omega | decide | (simp only [Int32.le_iff_toInt_le, Int32.lt_iff_toInt_lt, ti_add, ti_sub, ti_mul, Int32.reduceToInt] at *; omega)), hB⟩) (show ((1024 : Int32).toInt - (x4_16 + 1).toInt).toNat < ((1024 : Int32).toInt - x4_16.toInt).toNat from (by first | omega | decide | (simp only [Int32.le_iff_toInt_le, Int32.lt_iff_toInt_lt, ti_add, ti_sub, ti_mul, Int32.reduceToInt] at *; omega)))
              · refine ok_aIn rfl (by first | omega | decide | (simp only [Int32.le_iff_toInt_le, Int32.lt_iff_toInt_lt, ti_add, ti_sub, ti_mul, Int32.reduceToInt] at *; omega)) (by first | omega | decide | (simp only [Int32.le_iff_toInt_le, Int32.lt_iff_toInt_lt, ti_add, ti_sub, ti_mul, Int32.reduceToInt] at *; omega)) (fun v181 ev181 => ?_)
                have zv181 : v181 = 0 ∨ v181 = 1 := by rw [ev181]; exact hB 226 rfl _
                refine ok_if (fun hc182 => ?_) (fun hc182 => ?_)
                · refine ok_gR (v := 227) hT rfl (hR 218 17 rfl) ?_
                  refine ok_s16 hT rfl (by decide) (by first | omega | decide | (simp only [Int32.le_iff_toInt_le, Int32.lt_iff_toInt_lt, ti_add, ti_sub, ti_mul, Int32.reduceToInt] at *; omega)) (by first | omega | decide | (simp only [Int32.le_iff_toInt_le, Int32.lt_iff_toInt_lt, ti_add, ti_sub, ti_mul, Int32.reduceToInt] at *; omega)) (fun σ184 eσ184 hOσ184 hT => ?_)
                  have hB : ZB σ184.1 := by first | exact HQ | exact ZB_s eσ184 hB
                  exact ih66_16 (x4_16 + 1, σ184) (show Tr [227, 228] σ0 σ184 ∧ (0 ≤ (x4_16 + 1).toInt) ∧ (ZB σ184.1) from ⟨hT, (by first | omega | decide | (simp only [Int32.le_iff_toInt_le, Int32.lt_iff_toInt_lt, ti_add, ti_sub, ti_mul, Int32.reduceToInt] at *; omega)), hB⟩) (show ((1024 : Int32).toInt - (x4_16 + 1).toInt).toNat < ((1024 : Int32).toInt - x4_16.toInt).toNat from (by first | omega | decide | (simp only [Int32.le_iff_toInt_le, Int32.lt_iff_toInt_lt, ti_add, ti_sub, ti_mul, Int32.reduceToInt] at *; omega)))
                · refine ok_gR (v := 227) hT rfl (hR 218 17 rfl) ?_
                  refine ok_s16 hT rfl (by decide) (by first | omega | decide | (simp only [Int32.le_iff_toInt_le, Int32.lt_iff_toInt_lt, ti_add, ti_sub, ti_mul, Int32.reduceToInt] at *; omega)) (by first | omega | decide | (simp only [Int32.le_iff_toInt_le, Int32.lt_iff_toInt_lt, ti_add, ti_sub, ti_mul, Int32.reduceToInt] at *; omega)) (fun σ186 eσ186 hOσ186 hT => ?_)
                  have hB : ZB σ186.1 := by first | exact HQ | exact ZB_s eσ186 hB
                  exact ih66_16 (x4_16 + 1, σ186) (show Tr [227, 228] σ0 σ186 ∧ (0 ≤ (x4_16 + 1).toInt) ∧ (ZB σ186.1) from ⟨hT, (by first | omega | decide | (simp only [Int32.le_iff_toInt_le, Int32.lt_iff_toInt_lt, ti_add, ti_sub, ti_mul, Int32.reduceToInt] at *; omega)), hB⟩) (show ((1024 : Int32).toInt - (x4_16 + 1).toInt).toNat < ((1024 : Int32).toInt - x4_16.toInt).toNat from (by first | omega | decide | (simp only [Int32.le_iff_toInt_le, Int32.lt_iff_toInt_lt, ti_add, ti_sub, ti_mul, Int32.reduceToInt] at *; omega)))
            · refine ok_if (fun hc187 => ?_) (fun hc187 => ?_)
              · rw [J_X12_turns_182.eq_1]
                refine ok_if (fun hc188 => ?_) (fun hc188 => ?_)
                · refine ok_gR (v := 227) hT rfl (hR 218 17 rfl) ?_
                  refine ok_s16 hT rfl (by decide) (by first | omega | decide | (simp only [Int32.le_iff_toInt_le, Int32.lt_iff_toInt_lt, ti_add, ti_sub, ti_mul, Int32.reduceToInt] at *; omega)) (by first | omega | decide | (simp only [Int32.le_iff_toInt_le, Int32.lt_iff_toInt_lt, ti_add, ti_sub, ti_mul, Int32.reduceToInt] at *; omega)) (fun σ190 eσ190 hOσ190 hT => ?_)
                  have hB : ZB σ190.1 := by first | exact HQ | exact ZB_s eσ190 hB
                  exact ih66_16 (x4_16 + 1, σ190) (show Tr [227, 228] σ0 σ190 ∧ (0 ≤ (x4_16 + 1).toInt) ∧ (ZB σ190.1) from ⟨hT, (by first | omega | decide | (simp only [Int32.le_iff_toInt_le, Int32.lt_iff_toInt_lt, ti_add, ti_sub, ti_mul, Int32.reduceToInt] at *; omega)), hB⟩) (show ((1024 : Int32).toInt - (x4_16 + 1).toInt).toNat < ((1024 : Int32).toInt - x4_16.toInt).toNat from (by first | omega | decide | (simp only [Int32.le_iff_toInt_le, Int32.lt_iff_toInt_lt, ti_add, ti_sub, ti_mul, Int32.reduceToInt] at *; omega)))
                · refine ok_aIn rfl (by first | omega | decide | (simp only [Int32.le_iff_toInt_le, Int32.lt_iff_toInt_lt, ti_add, ti_sub, ti_mul, Int32.reduceToInt] at *; omega)) (by first | omega | decide | (simp only [Int32.le_iff_toInt_le, Int32.lt_iff_toInt_lt, ti_add, ti_sub, ti_mul, Int32.reduceToInt] at *; omega)) (fun v191 ev191 => ?_)
                  have zv191 : v191 = 0 ∨ v191 = 1 := by rw [ev191]; exact hB 226 rfl _
                  refine ok_if (fun hc192 => ?_) (fun hc192 => ?_)
                  · refine ok_if (fun hc193 => ?_) (fun hc193 => ?_)
                    · rw [J_X12_turns_211.eq_1]
                      refine ok_gC rfl ?_
                      refine ok_zbT (Q := fun V σ => V = 0 ∨ V = 1) hT (s_X12_isNested_226 hN (hR.tr hT) (hB) (by first | exact ha | (rw [hT.2 218 (by decide)]; exact ha)) (by first | omega | decide | (simp only [Int32.le_iff_toInt_le, Int32.lt_iff_toInt_lt, ti_add, ti_sub, ti_mul, Int32.reduceToInt] at *; omega))) (fun _ h9 => absurd h9 List.not_mem_nil) (fun v194 σ195 hOσ195 hT hqv194 => ?_)
                      have hqv194 : v194 = 0 ∨ v194 = 1 := hqv194
                      have hB : ZB σ195.1 := ZB.tr hOσ195 (by decide) hB
                      refine ok_if (fun hc196 => ?_) (fun hc196 => ?_)
                      · refine ok_gR (v := 227) hT rfl (hR 218 17 rfl) ?_
                        refine ok_s16 hT rfl (by decide) (by first | omega | decide | (simp only [Int32.le_iff_toInt_le, Int32.lt_iff_toInt_lt, ti_add, ti_sub, ti_mul, Int32.reduceToInt] at *; omega)) (by first | omega | decide | (simp only [Int32.le_iff_toInt_le, Int32.lt_iff_toInt_lt, ti_add, ti_sub, ti_mul, Int32.reduceToInt] at *; omega)) (fun σ198 eσ198 hOσ198 hT => ?_)
                        have hB : ZB σ198.1 := by first | exact HQ | exact ZB_s eσ198 hB
                        exact ih66_16 (x4_16 + 1, σ198) (show Tr [227, 228] σ0 σ198 ∧ (0 ≤ (x4_16 + 1).toInt) ∧ (ZB σ198.1) from ⟨hT, (by first | omega | decide | (simp only [Int32.le_iff_toInt_le, Int32.lt_iff_toInt_lt, ti_add, ti_sub, ti_mul, Int32.reduceToInt] at *; omega)), hB⟩) (show ((1024 : Int32).toInt - (x4_16 + 1).toInt).toNat < ((1024 : Int32).toInt - x4_16.toInt).toNat from (by first | omega | decide | (simp only [Int32.le_iff_toInt_le, Int32.lt_iff_toInt_lt, ti_add, ti_sub, ti_mul, Int32.reduceToInt] at *; omega)))
                      · refine ok_gR (v := 227) hT rfl (hR 218 17 rfl) ?_
                        refine ok_s16 hT rfl (by decide) (by first | omega | decide | (simp only [Int32.le_iff_toInt_le, Int32.lt_iff_toInt_lt, ti_add, ti_sub, ti_mul, Int32.reduceToInt] at *; omega)) (by first | omega | decide | (simp only [Int32.le_iff_toInt_le, Int32.lt_iff_toInt_lt, ti_add, ti_sub, ti_mul, Int32.reduceToInt] at *; omega)) (fun σ200 eσ200 hOσ200 hT => ?_)
                        have hB : ZB σ200.1 := by first | exact HQ | exact ZB_s eσ200 hB
                        exact ih66_16 (x4_16 + 1, σ200) (show Tr [227, 228] σ0 σ200 ∧ (0 ≤ (x4_16 + 1).toInt) ∧ (ZB σ200.1) from ⟨hT, (by first | omega | decide | (simp only [Int32.le_iff_toInt_le, Int32.lt_iff_toInt_lt, ti_add, ti_sub, ti_mul, Int32.reduceToInt] at *; omega)), hB⟩) (show ((1024 : Int32).toInt - (x4_16 + 1).toInt).toNat < ((1024 : Int32).toInt - x4_16.toInt).toNat from (by first | omega | decide | (simp only [Int32.le_iff_toInt_le, Int32.lt_iff_toInt_lt, ti_add, ti_sub, ti_mul, Int32.reduceToInt] at *; omega)))
                    · rw [J_X12_turns_211.eq_1]
                      refine ok_gC rfl ?_
                      refine ok_zbT (Q := fun V σ => V = 0 ∨ V = 1) hT (s_X12_isNested_226 hN (hR.tr hT) (hB) (by first | exact ha | (rw [hT.2 218 (by decide)]; exact ha)) (by first | omega | decide | (simp only [Int32.le_iff_toInt_le, Int32.lt_iff_toInt_lt, ti_add, ti_sub, ti_mul, Int32.reduceToInt] at *; omega))) (fun _ h9 => absurd h9 List.not_mem_nil) (fun v201 σ202 hOσ202 hT hqv201 => ?_)
                      have hqv201 : v201 = 0 ∨ v201 = 1 := hqv201
                      have hB : ZB σ202.1 := ZB.tr hOσ202 (by decide) hB
                      refine ok_if (fun hc203 => ?_) (fun hc203 => ?_)
                      · refine ok_gR (v := 227) hT rfl (hR 218 17 rfl) ?_
                        refine ok_s16 hT rfl (by decide) (by first | omega | decide | (simp only [Int32.le_iff_toInt_le, Int32.lt_iff_toInt_lt, ti_add, ti_sub, ti_mul, Int32.reduceToInt] at *; omega)) (by first | omega | decide | (simp only [Int32.le_iff_toInt_le, Int32.lt_iff_toInt_lt, ti_add, ti_sub, ti_mul, Int32.reduceToInt] at *; omega)) (fun σ205 eσ205 hOσ205 hT => ?_)
                        have hB : ZB σ205.1 := by first | exact HQ | exact ZB_s eσ205 hB
                        exact ih66_16 (x4_16 + 1, σ205) (show Tr [227, 228] σ0 σ205 ∧ (0 ≤ (x4_16 + 1).toInt) ∧ (ZB σ205.1) from ⟨hT, (by first | omega | decide | (simp only [Int32.le_iff_toInt_le, Int32.lt_iff_toInt_lt, ti_add, ti_sub, ti_mul, Int32.reduceToInt] at *; omega)), hB⟩) (show ((1024 : Int32).toInt - (x4_16 + 1).toInt).toNat < ((1024 : Int32).toInt - x4_16.toInt).toNat from (by first | omega | decide | (simp only [Int32.le_iff_toInt_le, Int32.lt_iff_toInt_lt, ti_add, ti_sub, ti_mul, Int32.reduceToInt] at *; omega)))
                      · refine ok_gR (v := 227) hT rfl (hR 218 17 rfl) ?_
                        refine ok_s16 hT rfl (by decide) (by first | omega | decide | (simp only [Int32.le_iff_toInt_le, Int32.lt_iff_toInt_lt, ti_add, ti_sub, ti_mul, Int32.reduceToInt] at *; omega)) (by first | omega | decide | (simp only [Int32.le_iff_toInt_le, Int32.lt_iff_toInt_lt, ti_add, ti_sub, ti_mul, Int32.reduceToInt] at *; omega)) (fun σ207 eσ207 hOσ207 hT => ?_)
                        have hB : ZB σ207.1 := by first | exact HQ | exact ZB_s eσ207 hB
                        exact ih66_16 (x4_16 + 1, σ207) (show Tr [227, 228] σ0 σ207 ∧ (0 ≤ (x4_16 + 1).toInt) ∧ (ZB σ207.1) from ⟨hT, (by first | omega | decide | (simp only [Int32.le_iff_toInt_le, Int32.lt_iff_toInt_lt, ti_add, ti_sub, ti_mul, Int32.reduceToInt] at *; omega)), hB⟩) (show ((1024 : Int32).toInt - (x4_16 + 1).toInt).toNat < ((1024 : Int32).toInt - x4_16.toInt).toNat from (by first | omega | decide | (simp only [Int32.le_iff_toInt_le, Int32.lt_iff_toInt_lt, ti_add, ti_sub, ti_mul, Int32.reduceToInt] at *; omega)))
                  · refine ok_gR (v := 227) hT rfl (hR 218 17 rfl) ?_
                    refine ok_s16 hT rfl (by decide) (by first | omega | decide | (simp only [Int32.le_iff_toInt_le, Int32.lt_iff_toInt_lt, ti_add, ti_sub, ti_mul, Int32.reduceToInt] at *; omega)) (by first | omega | decide | (simp only [Int32.le_iff_toInt_le, Int32.lt_iff_toInt_lt, ti_add, ti_sub, ti_mul, Int32.reduceToInt] at *; omega)) (fun σ209 eσ209 hOσ209 hT => ?_)
                    have hB : ZB σ209.1 := by first | exact HQ | exact ZB_s eσ209 hB
                    exact ih66_16 (x4_16 + 1, σ209) (show Tr [227, 228] σ0 σ209 ∧ (0 ≤ (x4_16 + 1).toInt) ∧ (ZB σ209.1) from ⟨hT, (by first | omega | decide | (simp only [Int32.le_iff_toInt_le, Int32.lt_iff_toInt_lt, ti_add, ti_sub, ti_mul, Int32.reduceToInt] at *; omega)), hB⟩) (show ((1024 : Int32).toInt - (x4_16 + 1).toInt).toNat < ((1024 : Int32).toInt - x4_16.toInt).toNat from (by first | omega | decide | (simp only [Int32.le_iff_toInt_le, Int32.lt_iff_toInt_lt, ti_add, ti_sub, ti_mul, Int32.reduceToInt] at *; omega)))
              · refine ok_if (fun hc210 => ?_) (fun hc210 => ?_)
                · rw [J_X12_turns_182.eq_1]
                  refine ok_if (fun hc211 => ?_) (fun hc211 => ?_)
                  · refine ok_gR (v := 227) hT rfl (hR 218 17 rfl) ?_
                    refine ok_s16 hT rfl (by decide) (by first | omega | decide | (simp only [Int32.le_iff_toInt_le, Int32.lt_iff_toInt_lt, ti_add, ti_sub, ti_mul, Int32.reduceToInt] at *; omega)) (by first | omega | decide | (simp only [Int32.le_iff_toInt_le, Int32.lt_iff_toInt_lt, ti_add, ti_sub, ti_mul, Int32.reduceToInt] at *; omega)) (fun σ213 eσ213 hOσ213 hT => ?_)
                    have hB : ZB σ213.1 := by first | exact HQ | exact ZB_s eσ213 hB
                    exact ih66_16 (x4_16 + 1, σ213) (show Tr [227, 228] σ0 σ213 ∧ (0 ≤ (x4_16 + 1).toInt) ∧ (ZB σ213.1) from ⟨hT, (by first | omega | decide | (simp only [Int32.le_iff_toInt_le, Int32.lt_iff_toInt_lt, ti_add, ti_sub, ti_mul, Int32.reduceToInt] at *; omega)), hB⟩) (show ((1024 : Int32).toInt - (x4_16 + 1).toInt).toNat < ((1024 : Int32).toInt - x4_16.toInt).toNat from (by first | omega | decide | (simp only [Int32.le_iff_toInt_le, Int32.lt_iff_toInt_lt, ti_add, ti_sub, ti_mul, Int32.reduceToInt] at *; omega)))
                  · refine ok_aIn rfl (by first | omega | decide | (simp only [Int32.le_iff_toInt_le, Int32.lt_iff_toInt_lt, ti_add, ti_sub, ti_mul, Int32.reduceToInt] at *; omega)) (by first | omega | decide | (simp only [Int32.le_iff_toInt_le, Int32.lt_iff_toInt_lt, ti_add, ti_sub, ti_mul, Int32.reduceToInt] at *; omega)) (fun v214 ev214 => ?_)
                    have zv214 : v214 = 0 ∨ v214 = 1 := by rw [ev214]; exact hB 226 rfl _
                    refine ok_if (fun hc215 => ?_) (fun hc215 => ?_)
                    · refine ok_if (fun hc216 => ?_) (fun hc216 => ?_)
                      · rw [J_X12_turns_211.eq_1]
                        refine ok_gC rfl ?_
                        refine ok_zbT (Q := fun V σ => V = 0 ∨ V = 1) hT (s_X12_isNested_226 hN (hR.tr hT) (hB) (by first | exact ha | (rw [hT.2 218 (by decide)]; exact ha)) (by first | omega | decide | (simp only [Int32.le_iff_toInt_le, Int32.lt_iff_toInt_lt, ti_add, ti_sub, ti_mul, Int32.reduceToInt] at *; omega))) (fun _ h9 => absurd h9 List.not_mem_nil) (fun v217 σ218 hOσ218 hT hqv217 => ?_)
                        have hqv217 : v217 = 0 ∨ v217 = 1 := hqv217
                        have hB : ZB σ218.1 := ZB.tr hOσ218 (by decide) hB
                        refine ok_if (fun hc219 => ?_) (fun hc219 => ?_)
                        · refine ok_gR (v := 227) hT rfl (hR 218 17 rfl) ?_
                          refine ok_s16 hT rfl (by decide) (by first | omega | decide | (simp only [Int32.le_iff_toInt_le, Int32.lt_iff_toInt_lt, ti_add, ti_sub, ti_mul, Int32.reduceToInt] at *; omega)) (by first | omega | decide | (simp only [Int32.le_iff_toInt_le, Int32.lt_iff_toInt_lt, ti_add, ti_sub, ti_mul, Int32.reduceToInt] at *; omega)) (fun σ221 eσ221 hOσ221 hT => ?_)
                          have hB : ZB σ221.1 := by first | exact HQ | exact ZB_s eσ221 hB
                          exact ih66_16 (x4_16 + 1, σ221) (show Tr [227, 228] σ0 σ221 ∧ (0 ≤ (x4_16 + 1).toInt) ∧ (ZB σ221.1) from ⟨hT, (by first | omega | decide | (simp only [Int32.le_iff_toInt_le, Int32.lt_iff_toInt_lt, ti_add, ti_sub, ti_mul, Int32.reduceToInt] at *; omega)), hB⟩) (show ((1024 : Int32).toInt - (x4_16 + 1).toInt).toNat < ((1024 : Int32).toInt - x4_16.toInt).toNat from (by first | omega | decide | (simp only [Int32.le_iff_toInt_le, Int32.lt_iff_toInt_lt, ti_add, ti_sub, ti_mul, Int32.reduceToInt] at *; omega)))
                        · refine ok_gR (v := 227) hT rfl (hR 218 17 rfl) ?_
                          refine ok_s16 hT rfl (by decide) (by first | omega | decide | (simp only [Int32.le_iff_toInt_le, Int32.lt_iff_toInt_lt, ti_add, ti_sub, ti_mul, Int32.reduceToInt] at *; omega)) (by first | omega | decide | (simp only [Int32.le_iff_toInt_le, Int32.lt_iff_toInt_lt, ti_add, ti_sub, ti_mul, Int32.reduceToInt] at *; omega)) (fun σ223 eσ223 hOσ223 hT => ?_)
                          have hB : ZB σ223.1 := by first | exact HQ | exact ZB_s eσ223 hB
                          exact ih66_16 (x4_16 + 1, σ223) (show Tr [227, 228] σ0 σ223 ∧ (0 ≤ (x4_16 + 1).toInt) ∧ (ZB σ223.1) from ⟨hT, (by first | omega | decide | (simp only [Int32.le_iff_toInt_le, Int32.lt_iff_toInt_lt, ti_add, ti_sub, ti_mul, Int32.reduceToInt] at *; omega)), hB⟩) (show ((1024 : Int32).toInt - (x4_16 + 1).toInt).toNat < ((1024 : Int32).toInt - x4_16.toInt).toNat from (by first | omega | decide | (simp only [Int32.le_iff_toInt_le, Int32.lt_iff_toInt_lt, ti_add, ti_sub, ti_mul, Int32.reduceToInt] at *; omega)))
                      · rw [J_X12_turns_211.eq_1]
                        refine ok_gC rfl ?_
                        refine ok_zbT (Q := fun V σ => V = 0 ∨ V = 1) hT (s_X12_isNested_226 hN (hR.tr hT) (hB) (by first | exact ha | (rw [hT.2 218 (by decide)]; exact ha)) (by first | omega | decide | (simp only [Int32.le_iff_toInt_le, Int32.lt_iff_toInt_lt, ti_add, ti_sub, ti_mul, Int32.reduceToInt] at *; omega))) (fun _ h9 => absurd h9 List.not_mem_nil) (fun v224 σ225 hOσ225 hT hqv224 => ?_)
                        have hqv224 : v224 = 0 ∨ v224 = 1 := hqv224
                        have hB : ZB σ225.1 := ZB.tr hOσ225 (by decide) hB
                        refine ok_if (fun hc226 => ?_) (fun hc226 => ?_)
                        · refine ok_gR (v := 227) hT rfl (hR 218 17 rfl) ?_
                          refine ok_s16 hT rfl (by decide) (by first | omega | decide | (simp only [Int32.le_iff_toInt_le, Int32.lt_iff_toInt_lt, ti_add, ti_sub, ti_mul, Int32.reduceToInt] at *; omega)) (by first | omega | decide | (simp only [Int32.le_iff_toInt_le, Int32.lt_iff_toInt_lt, ti_add, ti_sub, ti_mul, Int32.reduceToInt] at *; omega)) (fun σ228 eσ228 hOσ228 hT => ?_)
                          have hB : ZB σ228.1 := by first | exact HQ | exact ZB_s eσ228 hB
                          exact ih66_16 (x4_16 + 1, σ228) (show Tr [227, 228] σ0 σ228 ∧ (0 ≤ (x4_16 + 1).toInt) ∧ (ZB σ228.1) from ⟨hT, (by first | omega | decide | (simp only [Int32.le_iff_toInt_le, Int32.lt_iff_toInt_lt, ti_add, ti_sub, ti_mul, Int32.reduceToInt] at *; omega)), hB⟩) (show ((1024 : Int32).toInt - (x4_16 + 1).toInt).toNat < ((1024 : Int32).toInt - x4_16.toInt).toNat from (by first | omega | decide | (simp only [Int32.le_iff_toInt_le, Int32.lt_iff_toInt_lt, ti_add, ti_sub, ti_mul, Int32.reduceToInt] at *; omega)))
                        · refine ok_gR (v := 227) hT rfl (hR 218 17 rfl) ?_
                          refine ok_s16 hT rfl (by decide) (by first | omega | decide | (simp only [Int32.le_iff_toInt_le, Int32.lt_iff_toInt_lt, ti_add, ti_sub, ti_mul, Int32.reduceToInt] at *; omega)) (by first | omega | decide | (simp only [Int32.le_iff_toInt_le, Int32.lt_iff_toInt_lt, ti_add, ti_sub, ti_mul, Int32.reduceToInt] at *; omega)) (fun σ230 eσ230 hOσ230 hT => ?_)
                          have hB : ZB σ230.1 := by first | exact HQ | exact ZB_s eσ230 hB
                          exact ih66_16 (x4_16 + 1, σ230) (show Tr [227, 228] σ0 σ230 ∧ (0 ≤ (x4_16 + 1).toInt) ∧ (ZB σ230.1) from ⟨hT, (by first | omega | decide | (simp only [Int32.le_iff_toInt_le, Int32.lt_iff_toInt_lt, ti_add, ti_sub, ti_mul, Int32.reduceToInt] at *; omega)), hB⟩) (show ((1024 : Int32).toInt - (x4_16 + 1).toInt).toNat < ((1024 : Int32).toInt - x4_16.toInt).toNat from (by first | omega | decide | (simp only [Int32.le_iff_toInt_le, Int32.lt_iff_toInt_lt, ti_add, ti_sub, ti_mul, Int32.reduceToInt] at *; omega)))
                    · refine ok_gR (v := 227) hT rfl (hR 218 17 rfl) ?_
                      refine ok_s16 hT rfl (by decide) (by first | omega | decide | (simp only [Int32.le_iff_toInt_le, Int32.lt_iff_toInt_lt, ti_add, ti_sub, ti_mul, Int32.reduceToInt] at *; omega)) (by first | omega | decide | (simp only [Int32.le_iff_toInt_le, Int32.lt_iff_toInt_lt, ti_add, ti_sub, ti_mul, Int32.reduceToInt] at *; omega)) (fun σ232 eσ232 hOσ232 hT => ?_)
                      have hB : ZB σ232.1 := by first | exact HQ | exact ZB_s eσ232 hB
                      exact ih66_16 (x4_16 + 1, σ232) (show Tr [227, 228] σ0 σ232 ∧ (0 ≤ (x4_16 + 1).toInt) ∧ (ZB σ232.1) from ⟨hT, (by first | omega | decide | (simp only [Int32.le_iff_toInt_le, Int32.lt_iff_toInt_lt, ti_add, ti_sub, ti_mul, Int32.reduceToInt] at *; omega)), hB⟩) (show ((1024 : Int32).toInt - (x4_16 + 1).toInt).toNat < ((1024 : Int32).toInt - x4_16.toInt).toNat from (by first | omega | decide | (simp only [Int32.le_iff_toInt_le, Int32.lt_iff_toInt_lt, ti_add, ti_sub, ti_mul, Int32.reduceToInt] at *; omega)))
                · refine ok_if (fun hc233 => ?_) (fun hc233 => ?_)
                  · refine ok_gR (v := 227) hT rfl (hR 218 17 rfl) ?_
                    refine ok_s16 hT rfl (by decide) (by first | omega | decide | (simp only [Int32.le_iff_toInt_le, Int32.lt_iff_toInt_lt, ti_add, ti_sub, ti_mul, Int32.reduceToInt] at *; omega)) (by first | omega | decide | (simp only [Int32.le_iff_toInt_le, Int32.lt_iff_toInt_lt, ti_add, ti_sub, ti_mul, Int32.reduceToInt] at *; omega)) (fun σ235 eσ235 hOσ235 hT => ?_)
                    have hB : ZB σ235.1 := by first | exact HQ | exact ZB_s eσ235 hB
                    exact ih66_16 (x4_16 + 1, σ235) (show Tr [227, 228] σ0 σ235 ∧ (0 ≤ (x4_16 + 1).toInt) ∧ (ZB σ235.1) from ⟨hT, (by first | omega | decide | (simp only [Int32.le_iff_toInt_le, Int32.lt_iff_toInt_lt, ti_add, ti_sub, ti_mul, Int32.reduceToInt] at *; omega)), hB⟩) (show ((1024 : Int32).toInt - (x4_16 + 1).toInt).toNat < ((1024 : Int32).toInt - x4_16.toInt).toNat from (by first | omega | decide | (simp only [Int32.le_iff_toInt_le, Int32.lt_iff_toInt_lt, ti_add, ti_sub, ti_mul, Int32.reduceToInt] at *; omega)))
                  · refine ok_aIn rfl (by first | omega | decide | (simp only [Int32.le_iff_toInt_le, Int32.lt_iff_toInt_lt, ti_add, ti_sub, ti_mul, Int32.reduceToInt] at *; omega)) (by first | omega | decide | (simp only [Int32.le_iff_toInt_le, Int32.lt_iff_toInt_lt, ti_add, ti_sub, ti_mul, Int32.reduceToInt] at *; omega)) (fun v236 ev236 => ?_)
                    have zv236 : v236 = 0 ∨ v236 = 1 := by rw [ev236]; exact hB 226 rfl _
                    refine ok_if (fun hc237 => ?_) (fun hc237 => ?_)
                    · refine ok_gR (v := 227) hT rfl (hR 218 17 rfl) ?_
                      refine ok_s16 hT rfl (by decide) (by first | omega | decide | (simp only [Int32.le_iff_toInt_le, Int32.lt_iff_toInt_lt, ti_add, ti_sub, ti_mul, Int32.reduceToInt] at *; omega)) (by first | omega | decide | (simp only [Int32.le_iff_toInt_le, Int32.lt_iff_toInt_lt, ti_add, ti_sub, ti_mul, Int32.reduceToInt] at *; omega)) (fun σ239 eσ239 hOσ239 hT => ?_)
                      have hB : ZB σ239.1 := by first | exact HQ | exact ZB_s eσ239 hB
                      exact ih66_16 (x4_16 + 1, σ239) (show Tr [227, 228] σ0 σ239 ∧ (0 ≤ (x4_16 + 1).toInt) ∧ (ZB σ239.1) from ⟨hT, (by first | omega | decide | (simp only [Int32.le_iff_toInt_le, Int32.lt_iff_toInt_lt, ti_add, ti_sub, ti_mul, Int32.reduceToInt] at *; omega)), hB⟩) (show ((1024 : Int32).toInt - (x4_16 + 1).toInt).toNat < ((1024 : Int32).toInt - x4_16.toInt).toNat from (by first | omega | decide | (simp only [Int32.le_iff_toInt_le, Int32.lt_iff_toInt_lt, ti_add, ti_sub, ti_mul, Int32.reduceToInt] at *; omega)))
                    · refine ok_gR (v := 227) hT rfl (hR 218 17 rfl) ?_
                      refine ok_s16 hT rfl (by decide) (by first | omega | decide | (simp only [Int32.le_iff_toInt_le, Int32.lt_iff_toInt_lt, ti_add, ti_sub, ti_mul, Int32.reduceToInt] at *; omega)) (by first | omega | decide | (simp only [Int32.le_iff_toInt_le, Int32.lt_iff_toInt_lt, ti_add, ti_sub, ti_mul, Int32.reduceToInt] at *; omega)) (fun σ241 eσ241 hOσ241 hT => ?_)
                      have hB : ZB σ241.1 := by first | exact HQ | exact ZB_s eσ241 hB
                      exact ih66_16 (x4_16 + 1, σ241) (show Tr [227, 228] σ0 σ241 ∧ (0 ≤ (x4_16 + 1).toInt) ∧ (ZB σ241.1) from ⟨hT, (by first | omega | decide | (simp only [Int32.le_iff_toInt_le, Int32.lt_iff_toInt_lt, ti_add, ti_sub, ti_mul, Int32.reduceToInt] at *; omega)), hB⟩) (show ((1024 : Int32).toInt - (x4_16 + 1).toInt).toNat < ((1024 : Int32).toInt - x4_16.toInt).toNat from (by first | omega | decide | (simp only [Int32.le_iff_toInt_le, Int32.lt_iff_toInt_lt, ti_add, ti_sub, ti_mul, Int32.reduceToInt] at *; omega)))

set_option maxHeartbeats 4000000 in
set_option maxRecDepth 100000 in
theorem s_X12_turns_229 {N : Nat} (hN : 1048576 ≤ N) {x1 : Int32} {x3 : Int32} {σ0 : zS}  (hR : RF σ0.2.2) (hB : ZB σ0.1) (ha : 0 ≤ (σ0.1 218 20).toInt ∧ (σ0.1 218 20).toInt ≤ 1024) (h3 : 0 ≤ x3.toInt ∧ x3.toInt ≤ 0) : Ok (f_X12_turns N 218 x1 229 x3 σ0) (fun r => Tr [227, 228] σ0 r.2 ∧ (ZB r.2.1)) := by
  have hT : Tr [227, 228] σ0 σ0 := Tr.rf
  rw [f_X12_turns.eq_1]
  refine ok_if (fun hc1 => ?_) (fun hc1 => ?_)
  · refine ok_lp (fun t : Int32 × zS => Tr [227, 228] σ0 (t.2) ∧ (0 ≤ (t.1).toInt) ∧ (ZB (t.2).1)) (fun t : Int32 × zS => ((1024 : Int32).toInt - (t.1).toInt).toNat) (fun again2 t hI ih8_2 => ?_) N _ (show Tr [227, 228] σ0 σ0 ∧ (0 ≤ (0 : Int32).toInt) ∧ (ZB σ0.1) from ⟨hT, (by first | omega | decide | (simp only [Int32.le_iff_toInt_le, Int32.lt_iff_toInt_lt, ti_add, ti_sub, ti_mul, Int32.reduceToInt] at *; omega)), hB⟩) (show ((1024 : Int32).toInt - (0 : Int32).toInt).toNat < N from (by first | omega | decide | (simp only [Int32.le_iff_toInt_le, Int32.lt_iff_toInt_lt, ti_add, ti_sub, ti_mul, Int32.reduceToInt] at *; omega)))
    obtain ⟨x4_2, σ2⟩ := t
    have hI : Tr [227, 228] σ0 σ2 ∧ (0 ≤ x4_2.toInt) ∧ (ZB σ2.1) := hI
    obtain ⟨hT, hI2, hB⟩ := hI
    rw [F_X12_turns_8.eq_1]
    refine ok_if (fun hc3 => ?_) (fun hc3 => ?_)
    · refine ok_gR (v := 228) hT rfl (hR 218 18 rfl) ?_
      refine ok_gC rfl ?_
      refine ok_zbT (Q := fun V σ => ZB σ.1) hT (s_X12_turns__228 hN (hR.tr hT) (hB) (by first | exact ha | (rw [hT.2 218 (by decide)]; exact ha))) (by decide) (fun v5 σ6 hOσ6 hT hqv5 => ?_)
      have hqv5 : ZB σ6.1 := hqv5
      have hB : ZB σ6.1 := by first | exact hqv5 | exact ZB_s eσ6 hB
      exact ok_some ⟨hT, (show ZB σ6.1 from by exact hB)⟩
    · refine ok_gR (v := 228) hT rfl (hR 218 18 rfl) ?_
      refine ok_gI0 hT rfl (by decide) ?_
      refine ok_if (fun hc9 => ?_) (fun hc9 => ?_)
      · refine ok_s16 hT rfl (by decide) (by first | omega | decide | (simp only [Int32.le_iff_toInt_le, Int32.lt_iff_toInt_lt, ti_add, ti_sub, ti_mul, Int32.reduceToInt] at *; omega)) (by first | omega | decide | (simp only [Int32.le_iff_toInt_le, Int32.lt_iff_toInt_lt, ti_add, ti_sub, ti_mul, Int32.reduceToInt] at *; omega)) (fun σ10 eσ10 hOσ10 hT => ?_)
        have hB : ZB σ10.1 := by first | exact HQ | exact ZB_s eσ10 hB
        exact ih8_2 (x4_2 + 1, σ10) (show Tr [227, 228] σ0 σ10 ∧ (0 ≤ (x4_2 + 1).toInt) ∧ (ZB σ10.1) from ⟨hT, (by first | omega | decide | (simp only [Int32.le_iff_toInt_le, Int32.lt_iff_toInt_lt, ti_add, ti_sub, ti_mul, Int32.reduceToInt] at *; omega)), hB⟩) (show ((1024 : Int32).toInt - (x4_2 + 1).toInt).toNat < ((1024 : Int32).toInt - x4_2.toInt).toNat from (by first | omega | decide | (simp only [Int32.le_iff_toInt_le, Int32.lt_iff_toInt_lt, ti_add, ti_sub, ti_mul, Int32.reduceToInt] at *; omega)))
      · refine ok_gC rfl ?_
        refine ok_zbT (Q := fun V σ => V = 0 ∨ V = 1) hT (s_X12_isTouching_229 hN (hR.tr hT) (hB) (by first | exact ha | (rw [hT.2 218 (by decide)]; exact ha)) (by first | omega | decide | (simp only [Int32.le_iff_toInt_le, Int32.lt_iff_toInt_lt, ti_add, ti_sub, ti_mul, Int32.reduceToInt] at *; omega)) (by first | omega | decide | (simp only [Int32.le_iff_toInt_le, Int32.lt_iff_toInt_lt, ti_add, ti_sub, ti_mul, Int32.reduceToInt] at *; omega))) (fun _ h9 => absurd h9 List.not_mem_nil) (fun v11 σ12 hOσ12 hT hqv11 => ?_)
        have hqv11 : v11 = 0 ∨ v11 = 1 := hqv11
        have hB : ZB σ12.1 := ZB.tr hOσ12 (by decide) hB
        refine ok_if (fun hc13 => ?_) (fun hc13 => ?_)
        · refine ok_s16 hT rfl (by decide) (by first | omega | decide | (simp only [Int32.le_iff_toInt_le, Int32.lt_iff_toInt_lt, ti_add, ti_sub, ti_mul, Int32.reduceToInt] at *; omega)) (by first | omega | decide | (simp only [Int32.le_iff_toInt_le, Int32.lt_iff_toInt_lt, ti_add, ti_sub, ti_mul, Int32.reduceToInt] at *; omega)) (fun σ14 eσ14 hOσ14 hT => ?_)
          have hB : ZB σ14.1 := by first | exact HQ | exact ZB_s eσ14 hB
          exact ih8_2 (x4_2 + 1, σ14) (show Tr [227, 228] σ0 σ14 ∧ (0 ≤ (x4_2 + 1).toInt) ∧ (ZB σ14.1) from ⟨hT, (by first | omega | decide | (simp only [Int32.le_iff_toInt_le, Int32.lt_iff_toInt_lt, ti_add, ti_sub, ti_mul, Int32.reduceToInt] at *; omega)), hB⟩) (show ((1024 : Int32).toInt - (x4_2 + 1).toInt).toNat < ((1024 : Int32).toInt - x4_2.toInt).toNat from (by first | omega | decide | (simp only [Int32.le_iff_toInt_le, Int32.lt_iff_toInt_lt, ti_add, ti_sub, ti_mul, Int32.reduceToInt] at *; omega)))
        · refine ok_s16 hT rfl (by decide) (by first | omega | decide | (simp only [Int32.le_iff_toInt_le, Int32.lt_iff_toInt_lt, ti_add, ti_sub, ti_mul, Int32.reduceToInt] at *; omega)) (by first | omega | decide | (simp only [Int32.le_iff_toInt_le, Int32.lt_iff_toInt_lt, ti_add, ti_sub, ti_mul, Int32.reduceToInt] at *; omega)) (fun σ15 eσ15 hOσ15 hT => ?_)
          have hB : ZB σ15.1 := by first | exact HQ | exact ZB_s eσ15 hB
          exact ih8_2 (x4_2 + 1, σ15) (show Tr [227, 228] σ0 σ15 ∧ (0 ≤ (x4_2 + 1).toInt) ∧ (ZB σ15.1) from ⟨hT, (by first | omega | decide | (simp only [Int32.le_iff_toInt_le, Int32.lt_iff_toInt_lt, ti_add, ti_sub, ti_mul, Int32.reduceToInt] at *; omega)), hB⟩) (show ((1024 : Int32).toInt - (x4_2 + 1).toInt).toNat < ((1024 : Int32).toInt - x4_2.toInt).toNat from (by first | omega | decide | (simp only [Int32.le_iff_toInt_le, Int32.lt_iff_toInt_lt, ti_add, ti_sub, ti_mul, Int32.reduceToInt] at *; omega)))
  · refine ok_lp (fun t : Int32 × zS => Tr [227, 228] σ0 (t.2) ∧ (0 ≤ (t.1).toInt) ∧ (ZB (t.2).1)) (fun t : Int32 × zS => ((1024 : Int32).toInt - (t.1).toInt).toNat) (fun again16 t hI ih66_16 => ?_) N _ (show Tr [227, 228] σ0 σ0 ∧ (0 ≤ (0 : Int32).toInt) ∧ (ZB σ0.1) from ⟨hT, (by first | omega | decide | (simp only [Int32.le_iff_toInt_le, Int32.lt_iff_toInt_lt, ti_add, ti_sub, ti_mul, Int32.reduceToInt] at *; omega)), hB⟩) (show ((1024 : Int32).toInt - (0 : Int32).toInt).toNat < N from (by first | omega | decide | (simp only [Int32.le_iff_toInt_le, Int32.lt_iff_toInt_lt, ti_add, ti_sub, ti_mul, Int32.reduceToInt] at *; omega)))
    obtain ⟨x4_16, σ16⟩ := t
    have hI : Tr [227, 228] σ0 σ16 ∧ (0 ≤ x4_16.toInt) ∧ (ZB σ16.1) := hI
    obtain ⟨hT, hI16, hB⟩ := hI
    rw [F_X12_turns_66.eq_1]
    refine ok_if (fun hc17 => ?_) (fun hc17 => ?_)
    · exact ok_some ⟨hT, (show ZB σ16.1 from by exact hB)⟩
    · refine ok_gI0 hT rfl (by decide) ?_
      refine ok_if (fun hc19 => ?_) (fun hc19 => ?_)
      · rw [J_X12_turns_88.eq_1]
        refine ok_if (fun hc20 => ?_) (fun hc20 => ?_)
        · rw [J_X12_turns_99.eq_1]
          refine ok_if (fun hc21 => ?_) (fun hc21 => ?_)
          · refine ok_gR (v := 227) hT rfl (hR 218 17 rfl) ?_
            refine ok_s16 hT rfl (by decide) (by first | omega | decide | (simp only [Int32.le_iff_toInt_le, Int32.lt_iff_toInt_lt, ti_add, ti_sub, ti_mul, Int32.reduceToInt] at *; omega)) (by first | omega | decide | (simp only [Int32.le_iff_toInt_le, Int32.lt_iff_toInt_lt, ti_add, ti_sub, ti_mul, Int32.reduceToInt] at *; omega)) (fun σ23 eσ23 hOσ23 hT => ?_)
            have hB : ZB σ23.1 := by first | exact HQ | exact ZB_s eσ23 hB
            exact ih66_16 (x4_16 + 1, σ23) (show Tr [227, 228] σ0 σ23 ∧ (0 ≤ (x4_16 + 1).toInt) ∧ (ZB σ23.1) from ⟨hT, (by first | omega | decide | (simp only [Int32.le_iff_toInt_le, Int32.lt_iff_toInt_lt, ti_add, ti_sub, ti_mul, Int32.reduceToInt] at *; omega)), hB⟩) (show ((1024 : Int32).toInt - (x4_16 + 1).toInt).toNat < ((1024 : Int32).toInt - x4_16.toInt).toNat from (by first | omega | decide | (simp only [Int32.le_iff_toInt_le, Int32.lt_iff_toInt_lt, ti_add, ti_sub, ti_mul, Int32.reduceToInt] at *; omega)))
          · refine ok_aIn rfl (by first | omega | decide | (simp only [Int32.le_iff_toInt_le, Int32.lt_iff_toInt_lt, ti_add, ti_sub, ti_mul, Int32.reduceToInt] at *; omega)) (by first | omega | decide | (simp only [Int32.le_iff_toInt_le, Int32.lt_iff_toInt_lt, ti_add, ti_sub, ti_mul, Int32.reduceToInt] at *; omega)) (fun v24 ev24 => ?_)
            have zv24 : v24 = 0 ∨ v24 = 1 := by rw [ev24]; exact hB 229 rfl _
            refine ok_if (fun hc25 => ?_) (fun hc25 => ?_)
            · refine ok_gR (v := 227) hT rfl (hR 218 17 rfl) ?_
              refine ok_s16 hT rfl (by decide) (by first | omega | decide | (simp only [Int32.le_iff_toInt_le, Int32.lt_iff_toInt_lt, ti_add, ti_sub, ti_mul, Int32.reduceToInt] at *; omega)) (by first | omega | decide | (simp only [Int32.le_iff_toInt_le, Int32.lt_iff_toInt_lt, ti_add, ti_sub, ti_mul, Int32.reduceToInt] at *; omega)) (fun σ27 eσ27 hOσ27 hT => ?_)
              have hB : ZB σ27.1 := by first | exact HQ | exact ZB_s eσ27 hB
              exact ih66_16 (x4_16 + 1, σ27) (show Tr [227, 228] σ0 σ27 ∧ (0 ≤ (x4_16 + 1).toInt) ∧ (ZB σ27.1) from ⟨hT, (by first | omega | decide | (simp only [Int32.le_iff_toInt_le, Int32.lt_iff_toInt_lt, ti_add, ti_sub, ti_mul, Int32.reduceToInt] at *; omega)), hB⟩) (show ((1024 : Int32).toInt - (x4_16 + 1).toInt).toNat < ((1024 : Int32).toInt - x4_16.toInt).toNat from (by first | omega | decide | (simp only [Int32.le_iff_toInt_le, Int32.lt_iff_toInt_lt, ti_add, ti_sub, ti_mul, Int32.reduceToInt] at *; omega)))
            · refine ok_if (fun hc28 => ?_) (fun hc28 => ?_)
              · rw [J_X12_turns_127.eq_1]
                refine ok_gC rfl ?_
                refine ok_zbT (Q := fun V σ => V = 0 ∨ V = 1) hT (s_X12_isNested_229 hN (hR.tr hT) (hB) (by first | exact ha | (rw [hT.2 218 (by decide)]; exact ha)) (by first | omega | decide | (simp only [Int32.le_iff_toInt_le, Int32.lt_iff_toInt_lt, ti_add, ti_sub, ti_mul, Int32.reduceToInt] at *; omega))) (fun _ h9 => absurd h9 List.not_mem_nil) (fun v29 σ30 hOσ30 hT hqv29 => ?_)
                have hqv29 : v29 = 0 ∨ v29 = 1 := hqv29
                have hB : ZB σ30.1 := ZB.tr hOσ30 (by decide) hB
                refine ok_if (fun hc31 => ?_) (fun hc31 => ?_)
                · refine ok_gR (v := 227) hT rfl (hR 218 17 rfl) ?_
                  refine ok_s16 hT rfl (by decide) (by first | omega | decide | (simp only [Int32.le_iff_toInt_le, Int32.lt_iff_toInt_lt, ti_add, ti_sub, ti_mul, Int32.reduceToInt] at *; omega)) (by first | omega | decide | (simp only [Int32.le_iff_toInt_le, Int32.lt_iff_toInt_lt, ti_add, ti_sub, ti_mul, Int32.reduceToInt] at *; omega)) (fun σ33 eσ33 hOσ33 hT => ?_)
                  have hB : ZB σ33.1 := by first | exact HQ | exact ZB_s eσ33 hB
                  exact ih66_16 (x4_16 + 1, σ33) (show Tr [227, 228] σ0 σ33 ∧ (0 ≤ (x4_16 + 1).toInt) ∧ (ZB σ33.1) from ⟨hT, (by first | omega | decide | (simp only [Int32.le_iff_toInt_le, Int32.lt_iff_toInt_lt, ti_add, ti_sub, ti_mul, Int32.reduceToInt] at *; omega)), hB⟩) (show ((1024 : Int32).toInt - (x4_16 + 1).toInt).toNat < ((1024 : Int32).toInt - x4_16.toInt).toNat from (by first | omega | decide | (simp only [Int32.le_iff_toInt_le, Int32.lt_iff_toInt_lt, ti_add, ti_sub, ti_mul, Int32.reduceToInt] at *; omega)))
                · refine ok_gR (v := 227) hT rfl (hR 218 17 rfl) ?_
                  refine ok_s16 hT rfl (by decide) (by first | omega | decide | (simp only [Int32.le_iff_toInt_le, Int32.lt_iff_toInt_lt, ti_add, ti_sub, ti_mul, Int32.reduceToInt] at *; omega)) (by first | omega | decide | (simp only [Int32.le_iff_toInt_le, Int32.lt_iff_toInt_lt, ti_add, ti_sub, ti_mul, Int32.reduceToInt] at *; omega)) (fun σ35 eσ35 hOσ35 hT => ?_)
                  have hB : ZB σ35.1 := by first | exact HQ | exact ZB_s eσ35 hB
                  exact ih66_16 (x4_16 + 1, σ35) (show Tr [227, 228] σ0 σ35 ∧ (0 ≤ (x4_16 + 1).toInt) ∧ (ZB σ35.1) from ⟨hT, (by first | omega | decide | (simp only [Int32.le_iff_toInt_le, Int32.lt_iff_toInt_lt, ti_add, ti_sub, ti_mul, Int32.reduceToInt] at *; omega)), hB⟩) (show ((1024 : Int32).toInt - (x4_16 + 1).toInt).toNat < ((1024 : Int32).toInt - x4_16.toInt).toNat from (by first | omega | decide | (simp only [Int32.le_iff_toInt_le, Int32.lt_iff_toInt_lt, ti_add, ti_sub, ti_mul, Int32.reduceToInt] at *; omega)))
              · rw [J_X12_turns_127.eq_1]
                refine ok_gC rfl ?_
                refine ok_zbT (Q := fun V σ => V = 0 ∨ V = 1) hT (s_X12_isNested_229 hN (hR.tr hT) (hB) (by first | exact ha | (rw [hT.2 218 (by decide)]; exact ha)) (by first | omega | decide | (simp only [Int32.le_iff_toInt_le, Int32.lt_iff_toInt_lt, ti_add, ti_sub, ti_mul, Int32.reduceToInt] at *; omega))) (fun _ h9 => absurd h9 List.not_mem_nil) (fun v36 σ37 hOσ37 hT hqv36 => ?_)
                have hqv36 : v36 = 0 ∨ v36 = 1 := hqv36
                have hB : ZB σ37.1 := ZB.tr hOσ37 (by decide) hB
                refine ok_if (fun hc38 => ?_) (fun hc38 => ?_)
                · refine ok_gR (v := 227) hT rfl (hR 218 17 rfl) ?_
                  refine ok_s16 hT rfl (by decide) (by first | omega | decide | (simp only [Int32.le_iff_toInt_le, Int32.lt_iff_toInt_lt, ti_add, ti_sub, ti_mul, Int32.reduceToInt] at *; omega)) (by first | omega | decide | (simp only [Int32.le_iff_toInt_le, Int32.lt_iff_toInt_lt, ti_add, ti_sub, ti_mul, Int32.reduceToInt] at *; omega)) (fun σ40 eσ40 hOσ40 hT => ?_)
                  have hB : ZB σ40.1 := by first | exact HQ | exact ZB_s eσ40 hB
                  exact ih66_16 (x4_16 + 1, σ40) (show Tr [227, 228] σ0 σ40 ∧ (0 ≤ (x4_16 + 1).toInt) ∧ (ZB σ40.1) from ⟨hT, (by first | omega | decide | (simp only [Int32.le_iff_toInt_le, Int32.lt_iff_toInt_lt, ti_add, ti_sub, ti_mul, Int32.reduceToInt] at *; omega)), hB⟩) (show ((1024 : Int32).toInt - (x4_16 + 1).toInt).toNat < ((1024 : Int32).toInt - x4_16.toInt).toNat from (by first | omega | decide | (simp only [Int32.le_iff_toInt_le, Int32.lt_iff_toInt_lt, ti_add, ti_sub, ti_mul, Int32.reduceToInt] at *; omega)))
                · refine ok_gR (v := 227) hT rfl (hR 218 17 rfl) ?_
                  refine ok_s16 hT rfl (by decide) (by first | omega | decide | (simp only [Int32.le_iff_toInt_le, Int32.lt_iff_toInt_lt, ti_add, ti_sub, ti_mul, Int32.reduceToInt] at *; omega)) (by first | omega | decide | (simp only [Int32.le_iff_toInt_le, Int32.lt_iff_toInt_lt, ti_add, ti_sub, ti_mul, Int32.reduceToInt] at *; omega)) (fun σ42 eσ42 hOσ42 hT => ?_)
                  have hB : ZB σ42.1 := by first | exact HQ | exact ZB_s eσ42 hB
                  exact ih66_16 (x4_16 + 1, σ42) (show Tr [227, 228] σ0 σ42 ∧ (0 ≤ (x4_16 + 1).toInt) ∧ (ZB σ42.1) from ⟨hT, (by first | omega | decide | (simp only [Int32.le_iff_toInt_le, Int32.lt_iff_toInt_lt, ti_add, ti_sub, ti_mul, Int32.reduceToInt] at *; omega)), hB⟩) (show ((1024 : Int32).toInt - (x4_16 + 1).toInt).toNat < ((1024 : Int32).toInt - x4_16.toInt).toNat from (by first | omega | decide | (simp only [Int32.le_iff_toInt_le, Int32.lt_iff_toInt_lt, ti_add, ti_sub, ti_mul, Int32.reduceToInt] at *; omega)))
        · refine ok_if (fun hc43 => ?_) (fun hc43 => ?_)
          · rw [J_X12_turns_99.eq_1]
            refine ok_if (fun hc44 => ?_) (fun hc44 => ?_)
            · refine ok_gR (v := 227) hT rfl (hR 218 17 rfl) ?_
              refine ok_s16 hT rfl (by decide) (by first | omega | decide | (simp only [Int32.le_iff_toInt_le, Int32.lt_iff_toInt_lt, ti_add, ti_sub, ti_mul, Int32.reduceToInt] at *; omega)) (by first | omega | decide | (simp only [Int32.le_iff_toInt_le, Int32.lt_iff_toInt_lt, ti_add, ti_sub, ti_mul, Int32.reduceToInt] at *; omega)) (fun σ46 eσ46 hOσ46 hT => ?_)
              have hB : ZB σ46.1 := by first | exact HQ | exact ZB_s eσ46 hB
              exact ih66_16 (x4_16 + 1, σ46) (show Tr [227, 228] σ0 σ46 ∧ (0 ≤ (x4_16 + 1).toInt) ∧ (ZB σ46.1) from ⟨hT, (by first | omega | decide | (simp only [Int32.le_iff_toInt_le, Int32.lt_iff_toInt_lt, ti_add, ti_sub, ti_mul, Int32.reduceToInt] at *; omega)), hB⟩) (show ((1024 : Int32).toInt - (x4_16 + 1).toInt).toNat < ((1024 : Int32).toInt - x4_16.toInt).toNat from (by first | omega | decide | (simp only [Int32.le_iff_toInt_le, Int32.lt_iff_toInt_lt, ti_add, ti_sub, ti_mul, Int32.reduceToInt] at *; omega)))
            · refine ok_aIn rfl (by first | omega | decide | (simp only [Int32.le_iff_toInt_le, Int32.lt_iff_toInt_lt, ti_add, ti_sub, ti_mul, Int32.reduceToInt] at *; omega)) (by first | omega | decide | (simp only [Int32.le_iff_toInt_le, Int32.lt_iff_toInt_lt, ti_add, ti_sub, ti_mul, Int32.reduceToInt] at *; omega)) (fun v47 ev47 => ?_)
              have zv47 : v47 = 0 ∨ v47 = 1 := by rw [ev47]; exact hB 229 rfl _
              refine ok_if (fun hc48 => ?_) (fun hc48 => ?_)
              · refine ok_gR (v := 227) hT rfl (hR 218 17 rfl) ?_
                refine ok_s16 hT rfl (by decide) (by first | omega | decide | (simp only [Int32.le_iff_toInt_le, Int32.lt_iff_toInt_lt, ti_add, ti_sub, ti_mul, Int32.reduceToInt] at *; omega)) (by first | omega | decide | (simp only [Int32.le_iff_toInt_le, Int32.lt_iff_toInt_lt, ti_add, ti_sub, ti_mul, Int32.reduceToInt] at *; omega)) (fun σ50 eσ50 hOσ50 hT => ?_)
                have hB : ZB σ50.1 := by first | exact HQ | exact ZB_s eσ50 hB
                exact ih66_16 (x4_16 + 1, σ50) (show Tr [227, 228] σ0 σ50 ∧ (0 ≤ (x4_16 + 1).toInt) ∧ (ZB σ50.1) from ⟨hT, (by first | omega | decide | (simp only [Int32.le_iff_toInt_le, Int32.lt_iff_toInt_lt, ti_add, ti_sub, ti_mul, Int32.reduceToInt] at *; omega)), hB⟩) (show ((1024 : Int32).toInt - (x4_16 + 1).toInt).toNat < ((1024 : Int32).toInt - x4_16.toInt).toNat from (by first | omega | decide | (simp only [Int32.le_iff_toInt_le, Int32.lt_iff_toInt_lt, ti_add, ti_sub, ti_mul, Int32.reduceToInt] at *; omega)))
              · refine ok_if (fun hc51 => ?_) (fun hc51 => ?_)
                · rw [J_X12_turns_127.eq_1]
                  refine ok_gC rfl ?_
                  refine ok_zbT (Q := fun V σ => V = 0 ∨ V = 1) hT (s_X12_isNested_229 hN (hR.tr hT) (hB) (by first | exact ha | (rw [hT.2 218 (by decide)]; exact ha)) (by first | omega | decide | (simp only [Int32.le_iff_toInt_le, Int32.lt_iff_toInt_lt, ti_add, ti_sub, ti_mul, Int32.reduceToInt] at *; omega))) (fun _ h9 => absurd h9 List.not_mem_nil) (fun v52 σ53 hOσ53 hT hqv52 => ?_)
                  have hqv52 : v52 = 0 ∨ v52 = 1 := hqv52
                  have hB : ZB σ53.1 := ZB.tr hOσ53 (by decide) hB
                  refine ok_if (fun hc54 => ?_) (fun hc54 => ?_)
                  · refine ok_gR (v := 227) hT rfl (hR 218 17 rfl) ?_
                    refine ok_s16 hT rfl (by decide) (by first | omega | decide | (simp only [Int32.le_iff_toInt_le, Int32.lt_iff_toInt_lt, ti_add, ti_sub, ti_mul, Int32.reduceToInt] at *; omega)) (by first | omega | decide | (simp only [Int32.le_iff_toInt_le, Int32.lt_iff_toInt_lt, ti_add, ti_sub, ti_mul, Int32.reduceToInt] at *; omega)) (fun σ56 eσ56 hOσ56 hT => ?_)
                    have hB : ZB σ56.1 := by first | exact HQ | exact ZB_s eσ56 hB
                    exact ih66_16 (x4_16 + 1, σ56) (show Tr [227, 228] σ0 σ56 ∧ (0 ≤ (x4_16 + 1).toInt) ∧ (ZB σ56.1) from ⟨hT, (by first | omega | decide | (simp only [Int32.le_iff_toInt_le, Int32.lt_iff_toInt_lt, ti_add, ti_sub, ti_mul, Int32.reduceToInt] at *; omega)), hB⟩) (show ((1024 : Int32).toInt - (x4_16 + 1).toInt).toNat < ((1024 : Int32).toInt - x4_16.toInt).toNat from (by first | omega | decide | (simp only [Int32.le_iff_toInt_le, Int32.lt_iff_toInt_lt, ti_add, ti_sub, ti_mul, Int32.reduceToInt] at *; omega)))
                  · refine ok_gR (v := 227) hT rfl (hR 218 17 rfl) ?_
                    refine ok_s16 hT rfl (by decide) (by first | omega | decide | (simp only [Int32.le_iff_toInt_le, Int32.lt_iff_toInt_lt, ti_add, ti_sub, ti_mul, Int32.reduceToInt] at *; omega)) (by first | omega | decide | (simp only [Int32.le_iff_toInt_le, Int32.lt_iff_toInt_lt, ti_add, ti_sub, ti_mul, Int32.reduceToInt] at *; omega)) (fun σ58 eσ58 hOσ58 hT => ?_)
                    have hB : ZB σ58.1 := by first | exact HQ | exact ZB_s eσ58 hB
                    exact ih66_16 (x4_16 + 1, σ58) (show Tr [227, 228] σ0 σ58 ∧ (0 ≤ (x4_16 + 1).toInt) ∧ (ZB σ58.1) from ⟨hT, (by first | omega | decide | (simp only [Int32.le_iff_toInt_le, Int32.lt_iff_toInt_lt, ti_add, ti_sub, ti_mul, Int32.reduceToInt] at *; omega)), hB⟩) (show ((1024 : Int32).toInt - (x4_16 + 1).toInt).toNat < ((1024 : Int32).toInt - x4_16.toInt).toNat from (by first | omega | decide | (simp only [Int32.le_iff_toInt_le, Int32.lt_iff_toInt_lt, ti_add, ti_sub, ti_mul, Int32.reduceToInt] at *; omega)))
                · rw [J_X12_turns_127.eq_1]
                  refine ok_gC rfl ?_
                  refine ok_zbT (Q := fun V σ => V = 0 ∨ V = 1) hT (s_X12_isNested_229 hN (hR.tr hT) (hB) (by first | exact ha | (rw [hT.2 218 (by decide)]; exact ha)) (by first | omega | decide | (simp only [Int32.le_iff_toInt_le, Int32.lt_iff_toInt_lt, ti_add, ti_sub, ti_mul, Int32.reduceToInt] at *; omega))) (fun _ h9 => absurd h9 List.not_mem_nil) (fun v59 σ60 hOσ60 hT hqv59 => ?_)
                  have hqv59 : v59 = 0 ∨ v59 = 1 := hqv59
                  have hB : ZB σ60.1 := ZB.tr hOσ60 (by decide) hB
                  refine ok_if (fun hc61 => ?_) (fun hc61 => ?_)
                  · refine ok_gR (v := 227) hT rfl (hR 218 17 rfl) ?_
                    refine ok_s16 hT rfl (by decide) (by first | omega | decide | (simp only [Int32.le_iff_toInt_le, Int32.lt_iff_toInt_lt, ti_add, ti_sub, ti_mul, Int32.reduceToInt] at *; omega)) (by first | omega | decide | (simp only [Int32.le_iff_toInt_le, Int32.lt_iff_toInt_lt, ti_add, ti_sub, ti_mul, Int32.reduceToInt] at *; omega)) (fun σ63 eσ63 hOσ63 hT => ?_)
                    have hB : ZB σ63.1 := by first | exact HQ | exact ZB_s eσ63 hB
                    exact ih66_16 (x4_16 + 1, σ63) (show Tr [227, 228] σ0 σ63 ∧ (0 ≤ (x4_16 + 1).toInt) ∧ (ZB σ63.1) from ⟨hT, (by first | omega | decide | (simp only [Int32.le_iff_toInt_le, Int32.lt_iff_toInt_lt, ti_add, ti_sub, ti_mul, Int32.reduceToInt] at *; omega)), hB⟩) (show ((1024 : Int32).toInt - (x4_16 + 1).toInt).toNat < ((1024 : Int32).toInt - x4_16.toInt).toNat from (by first | omega | decide | (simp only [Int32.le_iff_toInt_le, Int32.lt_iff_toInt_lt, ti_add, ti_sub, ti_mul, Int32.reduceToInt] at *; omega)))
                  · refine ok_gR (v := 227) hT rfl (hR 218 17 rfl) ?_
                    refine ok_s16 hT rfl (by decide) (by first | omega | decide | (simp only [Int32.le_iff_toInt_le, Int32.lt_iff_toInt_lt, ti_add, ti_sub, ti_mul, Int32.reduceToInt] at *; omega)) (by first | omega | decide | (simp only [Int32.le_iff_toInt_le, Int32.lt_iff_toInt_lt, ti_add, ti_sub, ti_mul, Int32.reduceToInt] at *; omega)) (fun σ65 eσ65 hOσ65 hT => ?_)
                    have hB : ZB σ65.1 := by first | exact HQ | exact ZB_s eσ65 hB
                    exact ih66_16 (x4_16 + 1, σ65) (show Tr [227, 228] σ0 σ65 ∧ (0 ≤ (x4_16 + 1).toInt) ∧ (ZB σ65.1) from ⟨hT, (by first | omega | decide | (simp only [Int32.le_iff_toInt_le, Int32.lt_iff_toInt_lt, ti_add, ti_sub, ti_mul, Int32.reduceToInt] at *; omega)), hB⟩) (show ((1024 : Int32).toInt - (x4_16 + 1).toInt).toNat < ((1024 : Int32).toInt - x4_16.toInt).toNat from (by first | omega | decide | (simp only [Int32.le_iff_toInt_le, Int32.lt_iff_toInt_lt, ti_add, ti_sub, ti_mul, Int32.reduceToInt] at *; omega)))
          · refine ok_if (fun hc66 => ?_) (fun hc66 => ?_)
            · refine ok_if (fun hc67 => ?_) (fun hc67 => ?_)
              · refine ok_gR (v := 227) hT rfl (hR 218 17 rfl) ?_
                refine ok_s16 hT rfl (by decide) (by first | omega | decide | (simp only [Int32.le_iff_toInt_le, Int32.lt_iff_toInt_lt, ti_add, ti_sub, ti_mul, Int32.reduceToInt] at *; omega)) (by first | omega | decide | (simp only [Int32.le_iff_toInt_le, Int32.lt_iff_toInt_lt, ti_add, ti_sub, ti_mul, Int32.reduceToInt] at *; omega)) (fun σ69 eσ69 hOσ69 hT => ?_)
                have hB : ZB σ69.1 := by first | exact HQ | exact ZB_s eσ69 hB
                exact ih66_16 (x4_16 + 1, σ69) (show Tr [227, 228] σ0 σ69 ∧ (0 ≤ (x4_16 + 1).toInt) ∧ (ZB σ69.1) from ⟨hT, (by first | omega | decide | (simp only [Int32.le_iff_toInt_le, Int32.lt_iff_toInt_lt, ti_add, ti_sub, ti_mul, Int32.reduceToInt] at *; omega)), hB⟩) (show ((1024 : Int32).toInt - (x4_16 + 1).toInt).toNat < ((1024 : Int32).toInt - x4_16.toInt).toNat from (by first | omega | decide | (simp only [Int32.le_iff_toInt_le, Int32.lt_iff_toInt_lt, ti_add, ti_sub, ti_mul, Int32.reduceToInt] at *; omega)))
              · refine ok_aIn rfl (by first | omega | decide | (simp only [Int32.le_iff_toInt_le, Int32.lt_iff_toInt_lt, ti_add, ti_sub, ti_mul, Int32.reduceToInt] at *; omega)) (by first | omega | decide | (simp only [Int32.le_iff_toInt_le, Int32.lt_iff_toInt_lt, ti_add, ti_sub, ti_mul, Int32.reduceToInt] at *; omega)) (fun v70 ev70 => ?_)
                have zv70 : v70 = 0 ∨ v70 = 1 := by rw [ev70]; exact hB 229 rfl _
                refine ok_if (fun hc71 => ?_) (fun hc71 => ?_)
                · refine ok_gR (v := 227) hT rfl (hR 218 17 rfl) ?_
                  refine ok_s16 hT rfl (by decide) (by first | omega | decide | (simp only [Int32.le_iff_toInt_le, Int32.lt_iff_toInt_lt, ti_add, ti_sub, ti_mul, Int32.reduceToInt] at *; omega)) (by first | omega | decide | (simp only [Int32.le_iff_toInt_le, Int32.lt_iff_toInt_lt, ti_add, ti_sub, ti_mul, Int32.reduceToInt] at *; omega)) (fun σ73 eσ73 hOσ73 hT => ?_)
                  have hB : ZB σ73.1 := by first | exact HQ | exact ZB_s eσ73 hB
                  exact ih66_16 (x4_16 + 1, σ73) (show Tr [227, 228] σ0 σ73 ∧ (0 ≤ (x4_16 + 1).toInt) ∧ (ZB σ73.1) from ⟨hT, (by first | omega | decide | (simp only [Int32.le_iff_toInt_le, Int32.lt_iff_toInt_lt, ti_add, ti_sub, ti_mul, Int32.reduceToInt] at *; omega)), hB⟩) (show ((1024 : Int32).toInt - (x4_16 + 1).toInt).toNat < ((1024 : Int32).toInt - x4_16.toInt).toNat from (by first | omega | decide | (simp only [Int32.le_iff_toInt_le, Int32.lt_iff_toInt_lt, ti_add, ti_sub, ti_mul, Int32.reduceToInt] at *; omega)))
                · refine ok_gR (v := 227) hT rfl (hR 218 17 rfl) ?_
                  refine ok_s16 hT rfl (by decide) (by first | omega | decide | (simp only [Int32.le_iff_toInt_le, Int32.lt_iff_toInt_lt, ti_add, ti_sub, ti_mul, Int32.reduceToInt] at *; omega)) (by first | omega | decide | (simp only [Int32.le_iff_toInt_le, Int32.lt_iff_toInt_lt, ti_add, ti_sub, ti_mul, Int32.reduceToInt] at *; omega)) (fun σ75 eσ75 hOσ75 hT => ?_)
                  have hB : ZB σ75.1 := by first | exact HQ | exact ZB_s eσ75 hB
                  exact ih66_16 (x4_16 + 1, σ75) (show Tr [227, 228] σ0 σ75 ∧ (0 ≤ (x4_16 + 1).toInt) ∧ (ZB σ75.1) from ⟨hT, (by first | omega | decide | (simp only [Int32.le_iff_toInt_le, Int32.lt_iff_toInt_lt, ti_add, ti_sub, ti_mul, Int32.reduceToInt] at *; omega)), hB⟩) (show ((1024 : Int32).toInt - (x4_16 + 1).toInt).toNat < ((1024 : Int32).toInt - x4_16.toInt).toNat from (by first | omega | decide | (simp only [Int32.le_iff_toInt_le, Int32.lt_iff_toInt_lt, ti_add, ti_sub, ti_mul, Int32.reduceToInt] at *; omega)))
            · refine ok_if (fun hc76 => ?_) (fun hc76 => ?_)
              · rw [J_X12_turns_182.eq_1]
                refine ok_if (fun hc77 => ?_) (fun hc77 => ?_)
                · refine ok_gR (v := 227) hT rfl (hR 218 17 rfl) ?_
                  refine ok_s16 hT rfl (by decide) (by first | omega | decide | (simp only [Int32.le_iff_toInt_le, Int32.lt_iff_toInt_lt, ti_add, ti_sub, ti_mul, Int32.reduceToInt] at *; omega)) (by first | omega | decide | (simp only [Int32.le_iff_toInt_le, Int32.lt_iff_toInt_lt, ti_add, ti_sub, ti_mul, Int32.reduceToInt] at *; omega)) (fun σ79 eσ79 hOσ79 hT => ?_)
                  have hB : ZB σ79.1 := by first | exact HQ | exact ZB_s eσ79 hB
                  exact ih66_16 (x4_16 + 1, σ79) (show Tr [227, 228] σ0 σ79 ∧ (0 ≤ (x4_16 + 1).toInt) ∧ (ZB σ79.1) from ⟨hT, (by first | omega | decide | (simp only [Int32.le_iff_toInt_le, Int32.lt_iff_toInt_lt, ti_add, ti_sub, ti_mul, Int32.reduceToInt] at *; omega)), hB⟩) (show ((1024 : Int32).toInt - (x4_16 + 1).toInt).toNat < ((1024 : Int32).toInt - x4_16.toInt).toNat from (by first | omega | decide | (simp only [Int32.le_iff_toInt_le, Int32.lt_iff_toInt_lt, ti_add, ti_sub, ti_mul, Int32.reduceToInt] at *; omega)))
                · refine ok_aIn rfl (by first | omega | decide | (simp only [Int32.le_iff_toInt_le, Int32.lt_iff_toInt_lt, ti_add, ti_sub, ti_mul, Int32.reduceToInt] at *; omega)) (by first | omega | decide | (simp only [Int32.le_iff_toInt_le, Int32.lt_iff_toInt_lt, ti_add, ti_sub, ti_mul, Int32.reduceToInt] at *; omega)) (fun v80 ev80 => ?_)
                  have zv80 : v80 = 0 ∨ v80 = 1 := by rw [ev80]; exact hB 229 rfl _
                  refine ok_if (fun hc81 => ?_) (fun hc81 => ?_)
                  · refine ok_if (fun hc82 => ?_) (fun hc82 => ?_)
                    · rw [J_X12_turns_211.eq_1]
                      refine ok_gC rfl ?_
                      refine ok_zbT (Q := fun V σ => V = 0 ∨ V = 1) hT (s_X12_isNested_229 hN (hR.tr hT) (hB) (by first | exact ha | (rw [hT.2 218 (by decide)]; exact ha)) (by first | omega | decide | (simp only [Int32.le_iff_toInt_le, Int32.lt_iff_toInt_lt, ti_add, ti_sub, ti_mul, Int32.reduceToInt] at *; omega))) (fun _ h9 => absurd h9 List.not_mem_nil) (fun v83 σ84 hOσ84 hT hqv83 => ?_)
                      have hqv83 : v83 = 0 ∨ v83 = 1 := hqv83
                      have hB : ZB σ84.1 := ZB.tr hOσ84 (by decide) hB
                      refine ok_if (fun hc85 => ?_) (fun hc85 => ?_)
                      · refine ok_gR (v := 227) hT rfl (hR 218 17 rfl) ?_
                        refine ok_s16 hT rfl (by decide) (by first | omega | decide | (simp only [Int32.le_iff_toInt_le, Int32.lt_iff_toInt_lt, ti_add, ti_sub, ti_mul, Int32.reduceToInt] at *; omega)) (by first | omega | decide | (simp only [Int32.le_iff_toInt_le, Int32.lt_iff_toInt_lt, ti_add, ti_sub, ti_mul, Int32.reduceToInt] at *; omega)) (fun σ87 eσ87 hOσ87 hT => ?_)
                        have hB : ZB σ87.1 := by first | exact HQ | exact ZB_s eσ87 hB
                        exact ih66_16 (x4_16 + 1, σ87) (show Tr [227, 228] σ0 σ87 ∧ (0 ≤ (x4_16 + 1).toInt) ∧ (ZB σ87.1) from ⟨hT, (by first | omega | decide | (simp only [Int32.le_iff_toInt_le, Int32.lt_iff_toInt_lt, ti_add, ti_sub, ti_mul, Int32.reduceToInt] at *; omega)), hB⟩) (show ((1024 : Int32).toInt - (x4_16 + 1).toInt).toNat < ((1024 : Int32).toInt - x4_16.toInt).toNat from (by first | omega | decide | (simp only [Int32.le_iff_toInt_le, Int32.lt_iff_toInt_lt, ti_add, ti_sub, ti_mul, Int32.reduceToInt] at *; omega)))
                      · refine ok_gR (v := 227) hT rfl (hR 218 17 rfl) ?_
                        refine ok_s16 hT rfl (by decide) (by first | omega | decide | (simp only [Int32.le_iff_toInt_le, Int32.lt_iff_toInt_lt, ti_add, ti_sub, ti_mul, Int32.reduceToInt] at *; omega)) (by first | omega | decide | (simp only [Int32.le_iff_toInt_le, Int32.lt_iff_toInt_lt, ti_add, ti_sub, ti_mul, Int32.reduceToInt] at *; omega)) (fun σ89 eσ89 hOσ89 hT => ?_)
                        have hB : ZB σ89.1 := by first | exact HQ | exact ZB_s eσ89 hB
                        exact ih66_16 (x4_16 + 1, σ89) (show Tr [227, 228] σ0 σ89 ∧ (0 ≤ (x4_16 + 1).toInt) ∧ (ZB σ89.1) from ⟨hT, (by first | omega | decide | (simp only [Int32.le_iff_toInt_le, Int32.lt_iff_toInt_lt, ti_add, ti_sub, ti_mul, Int32.reduceToInt] at *; omega)), hB⟩) (show ((1024 : Int32).toInt - (x4_16 + 1).toInt).toNat < ((1024 : Int32).toInt - x4_16.toInt).toNat from (by first | omega | decide | (simp only [Int32.le_iff_toInt_le, Int32.lt_iff_toInt_lt, ti_add, ti_sub, ti_mul, Int32.reduceToInt] at *; omega)))
                    · rw [J_X12_turns_211.eq_1]
                      refine ok_gC rfl ?_
                      refine ok_zbT (Q := fun V σ => V = 0 ∨ V = 1) hT (s_X12_isNested_229 hN (hR.tr hT) (hB) (by first | exact ha | (rw [hT.2 218 (by decide)]; exact ha)) (by first | omega | decide | (simp only [Int32.le_iff_toInt_le, Int32.lt_iff_toInt_lt, ti_add, ti_sub, ti_mul, Int32.reduceToInt] at *; omega))) (fun _ h9 => absurd h9 List.not_mem_nil) (fun v90 σ91 hOσ91 hT hqv90 => ?_)
                      have hqv90 : v90 = 0 ∨ v90 = 1 := hqv90
                      have hB : ZB σ91.1 := ZB.tr hOσ91 (by decide) hB
                      refine ok_if (fun hc92 => ?_) (fun hc92 => ?_)
                      · refine ok_gR (v := 227) hT rfl (hR 218 17 rfl) ?_
                        refine ok_s16 hT rfl (by decide) (by first | omega | decide | (simp only [Int32.le_iff_toInt_le, Int32.lt_iff_toInt_lt, ti_add, ti_sub, ti_mul, Int32.reduceToInt] at *; omega)) (by first | omega | decide | (simp only [Int32.le_iff_toInt_le, Int32.lt_iff_toInt_lt, ti_add, ti_sub, ti_mul, Int32.reduceToInt] at *; omega)) (fun σ94 eσ94 hOσ94 hT => ?_)
                        have hB : ZB σ94.1 := by first | exact HQ | exact ZB_s eσ94 hB
                        exact ih66_16 (x4_16 + 1, σ94) (show Tr [227, 228] σ0 σ94 ∧ (0 ≤ (x4_16 + 1).toInt) ∧ (ZB σ94.1) from ⟨hT, (by first | omega | decide | (simp only [Int32.le_iff_toInt_le, Int32.lt_iff_toInt_lt, ti_add, ti_sub, ti_mul, Int32.reduceToInt] at *; omega)), hB⟩) (show ((1024 : Int32).toInt - (x4_16 + 1).toInt).toNat < ((1024 : Int32).toInt - x4_16.toInt).toNat from (by first | omega | decide | (simp only [Int32.le_iff_toInt_le, Int32.lt_iff_toInt_lt, ti_add, ti_sub, ti_mul, Int32.reduceToInt] at *; omega)))
                      · refine ok_gR (v := 227) hT rfl (hR 218 17 rfl) ?_
                        refine ok_s16 hT rfl (by decide) (by first | omega | decide | (simp only [Int32.le_iff_toInt_le, Int32.lt_iff_toInt_lt, ti_add, ti_sub, ti_mul, Int32.reduceToInt] at *; omega)) (by first | omega | decide | (simp only [Int32.le_iff_toInt_le, Int32.lt_iff_toInt_lt, ti_add, ti_sub, ti_mul, Int32.reduceToInt] at *; omega)) (fun σ96 eσ96 hOσ96 hT => ?_)
                        have hB : ZB σ96.1 := by first | exact HQ | exact ZB_s eσ96 hB
                        exact ih66_16 (x4_16 + 1, σ96) (show Tr [227, 228] σ0 σ96 ∧ (0 ≤ (x4_16 + 1).toInt) ∧ (ZB σ96.1) from ⟨hT, (by first | omega | decide | (simp only [Int32.le_iff_toInt_le, Int32.lt_iff_toInt_lt, ti_add, ti_sub, ti_mul, Int32.reduceToInt] at *; omega)), hB⟩) (show ((1024 : Int32).toInt - (x4_16 + 1).toInt).toNat < ((1024 : Int32).toInt - x4_16.toInt).toNat from (by first | omega | decide | (simp only [Int32.le_iff_toInt_le, Int32.lt_iff_toInt_lt, ti_add, ti_sub, ti_mul, Int32.reduceToInt] at *; omega)))
                  · refine ok_gR (v := 227) hT rfl (hR 218 17 rfl) ?_
                    refine ok_s16 hT rfl (by decide) (by first | omega | decide | (simp only [Int32.le_iff_toInt_le, Int32.lt_iff_toInt_lt, ti_add, ti_sub, ti_mul, Int32.reduceToInt] at *; omega)) (by first | omega | decide | (simp only [Int32.le_iff_toInt_le, Int32.lt_iff_toInt_lt, ti_add, ti_sub, ti_mul, Int32.reduceToInt] at *; omega)) (fun σ98 eσ98 hOσ98 hT => ?_)
                    have hB : ZB σ98.1 := by first | exact HQ | exact ZB_s eσ98 hB
                    exact ih66_16 (x4_16 + 1, σ98) (show Tr [227, 228] σ0 σ98 ∧ (0 ≤ (x4_16 + 1).toInt) ∧ (ZB σ98.1) from ⟨hT, (by first | omega | decide | (simp only [Int32.le_iff_toInt_le, Int32.lt_iff_toInt_lt, ti_add, ti_sub, ti_mul, Int32.reduceToInt] at *; omega)), hB⟩) (show ((1024 : Int32).toInt - (x4_16 + 1).toInt).toNat < ((1024 : Int32).toInt - x4_16.toInt).toNat from (by first | omega | decide | (simp only [Int32.le_iff_toInt_le, Int32.lt_iff_toInt_lt, ti_add, ti_sub, ti_mul, Int32.reduceToInt] at *; omega)))
              · refine ok_if (fun hc99 => ?_) (fun hc99 => ?_)
                · rw [J_X12_turns_182.eq_1]
                  refine ok_if (fun hc100 => ?_) (fun hc100 => ?_)
                  · refine ok_gR (v := 227) hT rfl (hR 218 17 rfl) ?_
                    refine ok_s16 hT rfl (by decide) (by first | omega | decide | (simp only [Int32.le_iff_toInt_le, Int32.lt_iff_toInt_lt, ti_add, ti_sub, ti_mul, Int32.reduceToInt] at *; omega)) (by first | omega | decide | (simp only [Int32.le_iff_toInt_le, Int32.lt_iff_toInt_lt, ti_add, ti_sub, ti_mul, Int32.reduceToInt] at *; omega)) (fun σ102 eσ102 hOσ102 hT => ?_)
                    have hB : ZB σ102.1 := by first | exact HQ | exact ZB_s eσ102 hB
                    exact ih66_16 (x4_16 + 1, σ102) (show Tr [227, 228] σ0 σ102 ∧ (0 ≤ (x4_16 + 1).toInt) ∧ (ZB σ102.1) from ⟨hT, (by first | omega | decide | (simp only [Int32.le_iff_toInt_le, Int32.lt_iff_toInt_lt, ti_add, ti_sub, ti_mul, Int32.reduceToInt] at *; omega)), hB⟩) (show ((1024 : Int32).toInt - (x4_16 + 1).toInt).toNat < ((1024 : Int32).toInt - x4_16.toInt).toNat from (by first | omega | decide | (simp only [Int32.le_iff_toInt_le, Int32.lt_iff_toInt_lt, ti_add, ti_sub, ti_mul, Int32.reduceToInt] at *; omega)))
                  · refine ok_aIn rfl (by first | omega | decide | (simp only [Int32.le_iff_toInt_le, Int32.lt_iff_toInt_lt, ti_add, ti_sub, ti_mul, Int32.reduceToInt] at *; omega)) (by first | omega | decide | (simp only [Int32.le_iff_toInt_le, Int32.lt_iff_toInt_lt, ti_add, ti_sub, ti_mul, Int32.reduceToInt] at *; omega)) (fun v103 ev103 => ?_)
                    have zv103 : v103 = 0 ∨ v103 = 1 := by rw [ev103]; exact hB 229 rfl _
                    refine ok_if (fun hc104 => ?_) (fun hc104 => ?_)
                    · refine ok_if (fun hc105 => ?_) (fun hc105 => ?_)
                      · rw [J_X12_turns_211.eq_1]
                        refine ok_gC rfl ?_
                        refine ok_zbT (Q := fun V σ => V = 0 ∨ V = 1) hT (s_X12_isNested_229 hN (hR.tr hT) (hB) (by first | exact ha | (rw [hT.2 218 (by decide)]; exact ha)) (by first | omega | decide | (simp only [Int32.le_iff_toInt_le, Int32.lt_iff_toInt_lt, ti_add, ti_sub, ti_mul, Int32.reduceToInt] at *; omega))) (fun _ h9 => absurd h9 List.not_mem_nil) (fun v106 σ107 hOσ107 hT hqv106 => ?_)
                        have hqv106 : v106 = 0 ∨ v106 = 1 := hqv106
                        have hB : ZB σ107.1 := ZB.tr hOσ107 (by decide) hB
                        refine ok_if (fun hc108 => ?_) (fun hc108 => ?_)
                        · refine ok_gR (v := 227) hT rfl (hR 218 17 rfl) ?_
                          refine ok_s16 hT rfl (by decide) (by first | omega | decide | (simp only [Int32.le_iff_toInt_le, Int32.lt_iff_toInt_lt, ti_add, ti_sub, ti_mul, Int32.reduceToInt] at *; omega)) (by first | omega | decide | (simp only [Int32.le_iff_toInt_le, Int32.lt_iff_toInt_lt, ti_add, ti_sub, ti_mul, Int32.reduceToInt] at *; omega)) (fun σ110 eσ110 hOσ110 hT => ?_)
                          have hB : ZB σ110.1 := by first | exact HQ | exact ZB_s eσ110 hB
                          exact ih66_16 (x4_16 + 1, σ110) (show Tr [227, 228] σ0 σ110 ∧ (0 ≤ (x4_16 + 1).toInt) ∧ (ZB σ110.1) from ⟨hT, (by first | omega | decide | (simp only [Int32.le_iff_toInt_le, Int32.lt_iff_toInt_lt, ti_add, ti_sub, ti_mul, Int32.reduceToInt] at *; omega)), hB⟩) (show ((1024 : Int32).toInt - (x4_16 + 1).toInt).toNat < ((1024 : Int32).toInt - x4_16.toInt).toNat from (by first | omega | decide | (simp only [Int32.le_iff_toInt_le, Int32.lt_iff_toInt_lt, ti_add, ti_sub, ti_mul, Int32.reduceToInt] at *; omega)))
                        · refine ok_gR (v := 227) hT rfl (hR 218 17 rfl) ?_
                          refine ok_s16 hT rfl (by decide) (by first | omega | decide | (simp only [Int32.le_iff_toInt_le, Int32.lt_iff_toInt_lt, ti_add, ti_sub, ti_mul, Int32.reduceToInt] at *; omega)) (by first | omega | decide | (simp only [Int32.le_iff_toInt_le, Int32.lt_iff_toInt_lt, ti_add, ti_sub, ti_mul, Int32.reduceToInt] at *; omega)) (fun σ112 eσ112 hOσ112 hT => ?_)
                          have hB : ZB σ112.1 := by first | exact HQ | exact ZB_s eσ112 hB
                          exact ih66_16 (x4_16 + 1, σ112) (show Tr [227, 228] σ0 σ112 ∧ (0 ≤ (x4_16 + 1).toInt) ∧ (ZB σ112.1) from ⟨hT, (by first | omega | decide | (simp only [Int32.le_iff_toInt_le, Int32.lt_iff_toInt_lt, ti_add, ti_sub, ti_mul, Int32.reduceToInt] at *; omega)), hB⟩) (show ((1024 : Int32).toInt - (x4_16 + 1).toInt).toNat < ((1024 : Int32).toInt - x4_16.toInt).toNat from (by first | omega | decide | (simp only [Int32.le_iff_toInt_le, Int32.lt_iff_toInt_lt, ti_add, ti_sub, ti_mul, Int32.reduceToInt] at *; omega)))
                      · rw [J_X12_turns_211.eq_1]
                        refine ok_gC rfl ?_
                        refine ok_zbT (Q := fun V σ => V = 0 ∨ V = 1) hT (s_X12_isNested_229 hN (hR.tr hT) (hB) (by first | exact ha | (rw [hT.2 218 (by decide)]; exact ha)) (by first | omega | decide | (simp only [Int32.le_iff_toInt_le, Int32.lt_iff_toInt_lt, ti_add, ti_sub, ti_mul, Int32.reduceToInt] at *; omega))) (fun _ h9 => absurd h9 List.not_mem_nil) (fun v113 σ114 hOσ114 hT hqv113 => ?_)
                        have hqv113 : v113 = 0 ∨ v113 = 1 := hqv113
                        have hB : ZB σ114.1 := ZB.tr hOσ114 (by decide) hB
                        refine ok_if (fun hc115 => ?_) (fun hc115 => ?_)
                        · refine ok_gR (v := 227) hT rfl (hR 218 17 rfl) ?_
                          refine ok_s16 hT rfl (by decide) (by first | omega | decide | (simp only [Int32.le_iff_toInt_le, Int32.lt_iff_toInt_lt, ti_add, ti_sub, ti_mul, Int32.reduceToInt] at *; omega)) (by first | omega | decide | (simp only [Int32.le_iff_toInt_le, Int32.lt_iff_toInt_lt, ti_add, ti_sub, ti_mul, Int32.reduceToInt] at *; omega)) (fun σ117 eσ117 hOσ117 hT => ?_)
                          have hB : ZB σ117.1 := by first | exact HQ | exact ZB_s eσ117 hB
                          exact ih66_16 (x4_16 + 1, σ117) (show Tr [227, 228] σ0 σ117 ∧ (0 ≤ (x4_16 + 1).toInt) ∧ (ZB σ117.1) from ⟨hT, (by first | omega | decide | (simp only [Int32.le_iff_toInt_le, Int32.lt_iff_toInt_lt, ti_add, ti_sub, ti_mul, Int32.reduceToInt] at *; omega)), hB⟩) (show ((1024 : Int32).toInt - (x4_16 + 1).toInt).toNat < ((1024 : Int32).toInt - x4_16.toInt).toNat from (by first | omega | decide | (simp only [Int32.le_iff_toInt_le, Int32.lt_iff_toInt_lt, ti_add, ti_sub, ti_mul, Int32.reduceToInt] at *; omega)))
                        · refine ok_gR (v := 227) hT rfl (hR 218 17 rfl) ?_
                          refine ok_s16 hT rfl (by decide) (by first | omega | decide | (simp only [Int32.le_iff_toInt_le, Int32.lt_iff_toInt_lt, ti_add, ti_sub, ti_mul, Int32.reduceToInt] at *; omega)) (by first | omega | decide | (simp only [Int32.le_iff_toInt_le, Int32.lt_iff_toInt_lt, ti_add, ti_sub, ti_mul, Int32.reduceToInt] at *; omega)) (fun σ119 eσ119 hOσ119 hT => ?_)
                          have hB : ZB σ119.1 := by first | exact HQ | exact ZB_s eσ119 hB
                          exact ih66_16 (x4_16 + 1, σ119) (show Tr [227, 228] σ0 σ119 ∧ (0 ≤ (x4_16 + 1).toInt) ∧ (ZB σ119.1) from ⟨hT, (by first | omega | decide | (simp only [Int32.le_iff_toInt_le, Int32.lt_iff_toInt_lt, ti_add, ti_sub, ti_mul, Int32.reduceToInt] at *; omega)), hB⟩) (show ((1024 : Int32).toInt - (x4_16 + 1).toInt).toNat < ((1024 : Int32).toInt - x4_16.toInt).toNat from (by first | omega | decide | (simp only [Int32.le_iff_toInt_le, Int32.lt_iff_toInt_lt, ti_add, ti_sub, ti_mul, Int32.reduceToInt] at *; omega)))
                    · refine ok_gR (v := 227) hT rfl (hR 218 17 rfl) ?_
                      refine ok_s16 hT rfl (by decide) (by first | omega | decide | (simp only [Int32.le_iff_toInt_le, Int32.lt_iff_toInt_lt, ti_add, ti_sub, ti_mul, Int32.reduceToInt] at *; omega)) (by first | omega | decide | (simp only [Int32.le_iff_toInt_le, Int32.lt_iff_toInt_lt, ti_add, ti_sub, ti_mul, Int32.reduceToInt] at *; omega)) (fun σ121 eσ121 hOσ121 hT => ?_)
                      have hB : ZB σ121.1 := by first | exact HQ | exact ZB_s eσ121 hB
                      exact ih66_16 (x4_16 + 1, σ121) (show Tr [227, 228] σ0 σ121 ∧ (0 ≤ (x4_16 + 1).toInt) ∧ (ZB σ121.1) from ⟨hT, (by first | omega | decide | (simp only [Int32.le_iff_toInt_le, Int32.lt_iff_toInt_lt, ti_add, ti_sub, ti_mul, Int32.reduceToInt] at *; omega)), hB⟩) (show ((1024 : Int32).toInt - (x4_16 + 1).toInt).toNat < ((1024 : Int32).toInt - x4_16.toInt).toNat from (by first | omega | decide | (simp only [Int32.le_iff_toInt_le, Int32.lt_iff_toInt_lt, ti_add, ti_sub, ti_mul, Int32.reduceToInt] at *; omega)))
                · refine ok_if (fun hc122 => ?_) (fun hc122 => ?_)
                  · refine ok_gR (v := 227) hT rfl (hR 218 17 rfl) ?_
                    refine ok_s16 hT rfl (by decide) (by first | omega | decide | (simp only [Int32.le_iff_toInt_le, Int32.lt_iff_toInt_lt, ti_add, ti_sub, ti_mul, Int32.reduceToInt] at *; omega)) (by first | omega | decide | (simp only [Int32.le_iff_toInt_le, Int32.lt_iff_toInt_lt, ti_add, ti_sub, ti_mul, Int32.reduceToInt] at *; omega)) (fun σ124 eσ124 hOσ124 hT => ?_)
                    have hB : ZB σ124.1 := by first | exact HQ | exact ZB_s eσ124 hB
                    exact ih66_16 (x4_16 + 1, σ124) (show Tr [227, 228] σ0 σ124 ∧ (0 ≤ (x4_16 + 1).toInt) ∧ (ZB σ124.1) from ⟨hT, (by first | omega | decide | (simp only [Int32.le_iff_toInt_le, Int32.lt_iff_toInt_lt, ti_add, ti_sub, ti_mul, Int32.reduceToInt] at *; omega)), hB⟩) (show ((1024 : Int32).toInt - (x4_16 + 1).toInt).toNat < ((1024 : Int32).toInt - x4_16.toInt).toNat from (by first | omega | decide | (simp only [Int32.le_iff_toInt_le, Int32.lt_iff_toInt_lt, ti_add, ti_sub, ti_mul, Int32.reduceToInt] at *; omega)))
                  · refine ok_aIn rfl (by first | omega | decide | (simp only [Int32.le_iff_toInt_le, Int32.lt_iff_toInt_lt, ti_add, ti_sub, ti_mul, Int32.reduceToInt] at *; omega)) (by first | omega | decide | (simp only [Int32.le_iff_toInt_le, Int32.lt_iff_toInt_lt, ti_add, ti_sub, ti_mul, Int32.reduceToInt] at *; omega)) (fun v125 ev125 => ?_)
                    have zv125 : v125 = 0 ∨ v125 = 1 := by rw [ev125]; exact hB 229 rfl _
                    refine ok_if (fun hc126 => ?_) (fun hc126 => ?_)
                    · refine ok_gR (v := 227) hT rfl (hR 218 17 rfl) ?_
                      refine ok_s16 hT rfl (by decide) (by first | omega | decide | (simp only [Int32.le_iff_toInt_le, Int32.lt_iff_toInt_lt, ti_add, ti_sub, ti_mul, Int32.reduceToInt] at *; omega)) (by first | omega | decide | (simp only [Int32.le_iff_toInt_le, Int32.lt_iff_toInt_lt, ti_add, ti_sub, ti_mul, Int32.reduceToInt] at *; omega)) (fun σ128 eσ128 hOσ128 hT => ?_)
                      have hB : ZB σ128.1 := by first | exact HQ | exact ZB_s eσ128 hB
                      exact ih66_16 (x4_16 + 1, σ128) (show Tr [227, 228] σ0 σ128 ∧ (0 ≤ (x4_16 + 1).toInt) ∧ (ZB σ128.1) from ⟨hT, (by first | omega | decide | (simp only [Int32.le_iff_toInt_le, Int32.lt_iff_toInt_lt, ti_add, ti_sub, ti_mul, Int32.reduceToInt] at *; omega)), hB⟩) (show ((1024 : Int32).toInt - (x4_16 + 1).toInt).toNat < ((1024 : Int32).toInt - x4_16.toInt).toNat from (by first | omega | decide | (simp only [Int32.le_iff_toInt_le, Int32.lt_iff_toInt_lt, ti_add, ti_sub, ti_mul, Int32.reduceToInt] at *; omega)))
                    · refine ok_gR (v := 227) hT rfl (hR 218 17 rfl) ?_
                      refine ok_s16 hT rfl (by decide) (by first | omega | decide | (simp only [Int32.le_iff_toInt_le, Int32.lt_iff_toInt_lt, ti_add, ti_sub, ti_mul, Int32.reduceToInt] at *; omega)) (by first | omega | decide | (simp only [Int32.le_iff_toInt_le, Int32.lt_iff_toInt_lt, ti_add, ti_sub, ti_mul, Int32.reduceToInt] at *; omega)) (fun σ130 eσ130 hOσ130 hT => ?_)
                      have hB : ZB σ130.1 := by first | exact HQ | exact ZB_s eσ130 hB
                      exact ih66_16 (x4_16 + 1, σ130) (show Tr [227, 228] σ0 σ130 ∧ (0 ≤ (x4_16 + 1).toInt) ∧ (ZB σ130.1) from ⟨hT, (by first | omega | decide | (simp only [Int32.le_iff_toInt_le, Int32.lt_iff_toInt_lt, ti_add, ti_sub, ti_mul, Int32.reduceToInt] at *; omega)), hB⟩) (show ((1024 : Int32).toInt - (x4_16 + 1).toInt).toNat < ((1024 : Int32).toInt - x4_16.toInt).toNat from (by first | omega | decide | (simp only [Int32.le_iff_toInt_le, Int32.lt_iff_toInt_lt, ti_add, ti_sub, ti_mul, Int32.reduceToInt] at *; omega)))
      · rw [J_X12_turns_88.eq_1]
        refine ok_if (fun hc131 => ?_) (fun hc131 => ?_)
        · rw [J_X12_turns_99.eq_1]
          refine ok_if (fun hc132 => ?_) (fun hc132 => ?_)
          · refine ok_gR (v := 227) hT rfl (hR 218 17 rfl) ?_
            refine ok_s16 hT rfl (by decide) (by first | omega | decide | (simp only [Int32.le_iff_toInt_le, Int32.lt_iff_toInt_lt, ti_add, ti_sub, ti_mul, Int32.reduceToInt] at *; omega)) (by first | omega | decide | (simp only [Int32.le_iff_toInt_le, Int32.lt_iff_toInt_lt, ti_add, ti_sub, ti_mul, Int32.reduceToInt] at *; omega)) (fun σ134 eσ134 hOσ134 hT => ?_)
            have hB : ZB σ134.1 := by first | exact HQ | exact ZB_s eσ134 hB
            exact ih66_16 (x4_16 + 1, σ134) (show Tr [227, 228] σ0 σ134 ∧ (0 ≤ (x4_16 + 1).toInt) ∧ (ZB σ134.1) from ⟨hT, (by first | omega | decide | (simp only [Int32.le_iff_toInt_le, Int32.lt_iff_toInt_lt, ti_add, ti_sub, ti_mul, Int32.reduceToInt] at *; omega)), hB⟩) (show ((1024 : Int32).toInt - (x4_16 + 1).toInt).toNat < ((1024 : Int32).toInt - x4_16.toInt).toNat from (by first | omega | decide | (simp only [Int32.le_iff_toInt_le, Int32.lt_iff_toInt_lt, ti_add, ti_sub, ti_mul, Int32.reduceToInt] at *; omega)))
          · refine ok_aIn rfl (by first | omega | decide | (simp only [Int32.le_iff_toInt_le, Int32.lt_iff_toInt_lt, ti_add, ti_sub, ti_mul, Int32.reduceToInt] at *; omega)) (by first | omega | decide | (simp only [Int32.le_iff_toInt_le, Int32.lt_iff_toInt_lt, ti_add, ti_sub, ti_mul, Int32.reduceToInt] at *; omega)) (fun v135 ev135 => ?_)
            have zv135 : v135 = 0 ∨ v135 = 1 := by rw [ev135]; exact hB 229 rfl _
            refine ok_if (fun hc136 => ?_) (fun hc136 => ?_)
            · refine ok_gR (v := 227) hT rfl (hR 218 17 rfl) ?_
              refine ok_s16 hT rfl (by decide) (by first | omega | decide | (simp only [Int32.le_iff_toInt_le, Int32.lt_iff_toInt_lt, ti_add, ti_sub, ti_mul, Int32.reduceToInt] at *; omega)) (by first | omega | decide | (simp only [Int32.le_iff_toInt_le, Int32.lt_iff_toInt_lt, ti_add, ti_sub, ti_mul, Int32.reduceToInt] at *; omega)) (fun σ138 eσ138 hOσ138 hT => ?_)
              have hB : ZB σ138.1 := by first | exact HQ | exact ZB_s eσ138 hB
              exact ih66_16 (x4_16 + 1, σ138) (show Tr [227, 228] σ0 σ138 ∧ (0 ≤ (x4_16 + 1).toInt) ∧ (ZB σ138.1) from ⟨hT, (by first | omega | decide | (simp only [Int32.le_iff_toInt_le, Int32.lt_iff_toInt_lt, ti_add, ti_sub, ti_mul, Int32.reduceToInt] at *; omega)), hB⟩) (show ((1024 : Int32).toInt - (x4_16 + 1).toInt).toNat < ((1024 : Int32).toInt - x4_16.toInt).toNat from (by first | omega | decide | (simp only [Int32.le_iff_toInt_le, Int32.lt_iff_toInt_lt, ti_add, ti_sub, ti_mul, Int32.reduceToInt] at *; omega)))
            · refine ok_if (fun hc139 => ?_) (fun hc139 => ?_)
              · rw [J_X12_turns_127.eq_1]
                refine ok_gC rfl ?_
                refine ok_zbT (Q := fun V σ => V = 0 ∨ V = 1) hT (s_X12_isNested_229 hN (hR.tr hT) (hB) (by first | exact ha | (rw [hT.2 218 (by decide)]; exact ha)) (by first | omega | decide | (simp only [Int32.le_iff_toInt_le, Int32.lt_iff_toInt_lt, ti_add, ti_sub, ti_mul, Int32.reduceToInt] at *; omega))) (fun _ h9 => absurd h9 List.not_mem_nil) (fun v140 σ141 hOσ141 hT hqv140 => ?_)
                have hqv140 : v140 = 0 ∨ v140 = 1 := hqv140
                have hB : ZB σ141.1 := ZB.tr hOσ141 (by decide) hB
                refine ok_if (fun hc142 => ?_) (fun hc142 => ?_)
                · refine ok_gR (v := 227) hT rfl (hR 218 17 rfl) ?_
                  refine ok_s16 hT rfl (by decide) (by first | omega | decide | (simp only [Int32.le_iff_toInt_le, Int32.lt_iff_toInt_lt, ti_add, ti_sub, ti_mul, Int32.reduceToInt] at *; omega)) (by first | omega | decide | (simp only [Int32.le_iff_toInt_le, Int32.lt_iff_toInt_lt, ti_add, ti_sub, ti_mul, Int32.reduceToInt] at *; omega)) (fun σ144 eσ144 hOσ144 hT => ?_)
                  have hB : ZB σ144.1 := by first | exact HQ | exact ZB_s eσ144 hB
                  exact ih66_16 (x4_16 + 1, σ144) (show Tr [227, 228] σ0 σ144 ∧ (0 ≤ (x4_16 + 1).toInt) ∧ (ZB σ144.1) from ⟨hT, (by first | omega | decide | (simp only [Int32.le_iff_toInt_le, Int32.lt_iff_toInt_lt, ti_add, ti_sub, ti_mul, Int32.reduceToInt] at *; omega)), hB⟩) (show ((1024 : Int32).toInt - (x4_16 + 1).toInt).toNat < ((1024 : Int32).toInt - x4_16.toInt).toNat from (by first | omega | decide | (simp only [Int32.le_iff_toInt_le, Int32.lt_iff_toInt_lt, ti_add, ti_sub, ti_mul, Int32.reduceToInt] at *; omega)))
                · refine ok_gR (v := 227) hT rfl (hR 218 17 rfl) ?_
                  refine ok_s16 hT rfl (by decide) (by first | omega | decide | (simp only [Int32.le_iff_toInt_le, Int32.lt_iff_toInt_lt, ti_add, ti_sub, ti_mul, Int32.reduceToInt] at *; omega)) (by first | omega | decide | (simp only [Int32.le_iff_toInt_le, Int32.lt_iff_toInt_lt, ti_add, ti_sub, ti_mul, Int32.reduceToInt] at *; omega)) (fun σ146 eσ146 hOσ146 hT => ?_)
                  have hB : ZB σ146.1 := by first | exact HQ | exact ZB_s eσ146 hB
                  exact ih66_16 (x4_16 + 1, σ146) (show Tr [227, 228] σ0 σ146 ∧ (0 ≤ (x4_16 + 1).toInt) ∧ (ZB σ146.1) from ⟨hT, (by first | omega | decide | (simp only [Int32.le_iff_toInt_le, Int32.lt_iff_toInt_lt, ti_add, ti_sub, ti_mul, Int32.reduceToInt] at *; omega)), hB⟩) (show ((1024 : Int32).toInt - (x4_16 + 1).toInt).toNat < ((1024 : Int32).toInt - x4_16.toInt).toNat from (by first | omega | decide | (simp only [Int32.le_iff_toInt_le, Int32.lt_iff_toInt_lt, ti_add, ti_sub, ti_mul, Int32.reduceToInt] at *; omega)))
              · rw [J_X12_turns_127.eq_1]
                refine ok_gC rfl ?_
                refine ok_zbT (Q := fun V σ => V = 0 ∨ V = 1) hT (s_X12_isNested_229 hN (hR.tr hT) (hB) (by first | exact ha | (rw [hT.2 218 (by decide)]; exact ha)) (by first | omega | decide | (simp only [Int32.le_iff_toInt_le, Int32.lt_iff_toInt_lt, ti_add, ti_sub, ti_mul, Int32.reduceToInt] at *; omega))) (fun _ h9 => absurd h9 List.not_mem_nil) (fun v147 σ148 hOσ148 hT hqv147 => ?_)
                have hqv147 : v147 = 0 ∨ v147 = 1 := hqv147
                have hB : ZB σ148.1 := ZB.tr hOσ148 (by decide) hB
                refine ok_if (fun hc149 => ?_) (fun hc149 => ?_)
                · refine ok_gR (v := 227) hT rfl (hR 218 17 rfl) ?_
                  refine ok_s16 hT rfl (by decide) (by first | omega | decide | (simp only [Int32.le_iff_toInt_le, Int32.lt_iff_toInt_lt, ti_add, ti_sub, ti_mul, Int32.reduceToInt] at *; omega)) (by first | omega | decide | (simp only [Int32.le_iff_toInt_le, Int32.lt_iff_toInt_lt, ti_add, ti_sub, ti_mul, Int32.reduceToInt] at *; omega)) (fun σ151 eσ151 hOσ151 hT => ?_)
                  have hB : ZB σ151.1 := by first | exact HQ | exact ZB_s eσ151 hB
                  exact ih66_16 (x4_16 + 1, σ151) (show Tr [227, 228] σ0 σ151 ∧ (0 ≤ (x4_16 + 1).toInt) ∧ (ZB σ151.1) from ⟨hT, (by first | omega | decide | (simp only [Int32.le_iff_toInt_le, Int32.lt_iff_toInt_lt, ti_add, ti_sub, ti_mul, Int32.reduceToInt] at *; omega)), hB⟩) (show ((1024 : Int32).toInt - (x4_16 + 1).toInt).toNat < ((1024 : Int32).toInt - x4_16.toInt).toNat from (by first | omega | decide | (simp only [Int32.le_iff_toInt_le, Int32.lt_iff_toInt_lt, ti_add, ti_sub, ti_mul, Int32.reduceToInt] at *; omega)))
                · refine ok_gR (v := 227) hT rfl (hR 218 17 rfl) ?_
                  refine ok_s16 hT rfl (by decide) (by first | omega | decide | (simp only [Int32.le_iff_toInt_le, Int32.lt_iff_toInt_lt, ti_add, ti_sub, ti_mul, Int32.reduceToInt] at *; omega)) (by first | omega | decide | (simp only [Int32.le_iff_toInt_le, Int32.lt_iff_toInt_lt, ti_add, ti_sub, ti_mul, Int32.reduceToInt] at *; omega)) (fun σ153 eσ153 hOσ153 hT => ?_)
                  have hB : ZB σ153.1 := by first | exact HQ | exact ZB_s eσ153 hB
                  exact ih66_16 (x4_16 + 1, σ153) (show Tr [227, 228] σ0 σ153 ∧ (0 ≤ (x4_16 + 1).toInt) ∧ (ZB σ153.1) from ⟨hT, (by first | omega | decide | (simp only [Int32.le_iff_toInt_le, Int32.lt_iff_toInt_lt, ti_add, ti_sub, ti_mul, Int32.reduceToInt] at *; omega)), hB⟩) (show ((1024 : Int32).toInt - (x4_16 + 1).toInt).toNat < ((1024 : Int32).toInt - x4_16.toInt).toNat from (by first | omega | decide | (simp only [Int32.le_iff_toInt_le, Int32.lt_iff_toInt_lt, ti_add, ti_sub, ti_mul, Int32.reduceToInt] at *; omega)))
        · refine ok_if (fun hc154 => ?_) (fun hc154 => ?_)
          · rw [J_X12_turns_99.eq_1]
            refine ok_if (fun hc155 => ?_) (fun hc155 => ?_)
            · refine ok_gR (v := 227) hT rfl (hR 218 17 rfl) ?_
              refine ok_s16 hT rfl (by decide) (by first | omega | decide | (simp only [Int32.le_iff_toInt_le, Int32.lt_iff_toInt_lt, ti_add, ti_sub, ti_mul, Int32.reduceToInt] at *; omega)) (by first | omega | decide | (simp only [Int32.le_iff_toInt_le, Int32.lt_iff_toInt_lt, ti_add, ti_sub, ti_mul, Int32.reduceToInt] at *; omega)) (fun σ157 eσ157 hOσ157 hT => ?_)
              have hB : ZB σ157.1 := by first | exact HQ | exact ZB_s eσ157 hB
              exact ih66_16 (x4_16 + 1, σ157) (show Tr [227, 228] σ0 σ157 ∧ (0 ≤ (x4_16 + 1).toInt) ∧ (ZB σ157.1) from ⟨hT, (by first | omega | decide | (simp only [Int32.le_iff_toInt_le, Int32.lt_iff_toInt_lt, ti_add, ti_sub, ti_mul, Int32.reduceToInt] at *; omega)), hB⟩) (show ((1024 : Int32).toInt - (x4_16 + 1).toInt).toNat < ((1024 : Int32).toInt - x4_16.toInt).toNat from (by first | omega | decide | (simp only [Int32.le_iff_toInt_le, Int32.lt_iff_toInt_lt, ti_add, ti_sub, ti_mul, Int32.reduceToInt] at *; omega)))
            · refine ok_aIn rfl (by first | omega | decide | (simp only [Int32.le_iff_toInt_le, Int32.lt_iff_toInt_lt, ti_add, ti_sub, ti_mul, Int32.reduceToInt] at *; omega)) (by first | omega | decide | (simp only [Int32.le_iff_toInt_le, Int32.lt_iff_toInt_lt, ti_add, ti_sub, ti_mul, Int32.reduceToInt] at *; omega)) (fun v158 ev158 => ?_)
              have zv158 : v158 = 0 ∨ v158 = 1 := by rw [ev158]; exact hB 229 rfl _
              refine ok_if (fun hc159 => ?_) (fun hc159 => ?_)
              · refine ok_gR (v := 227) hT rfl (hR 218 17 rfl) ?_
                refine ok_s16 hT rfl (by decide) (by first | omega | decide | (simp only [Int32.le_iff_toInt_le, Int32.lt_iff_toInt_lt, ti_add, ti_sub, ti_mul, Int32.reduceToInt] at *; omega)) (by first | omega | decide | (simp only [Int32.le_iff_toInt_le, Int32.lt_iff_toInt_lt, ti_add, ti_sub, ti_mul, Int32.reduceToInt] at *; omega)) (fun σ161 eσ161 hOσ161 hT => ?_)
                have hB : ZB σ161.1 := by first | exact HQ | exact ZB_s eσ161 hB
                exact ih66_16 (x4_16 + 1, σ161) (show Tr [227, 228] σ0 σ161 ∧ (0 ≤ (x4_16 + 1).toInt) ∧ (ZB σ161.1) from ⟨hT, (by first | omega | decide | (simp only [Int32.le_iff_toInt_le, Int32.lt_iff_toInt_lt, ti_add, ti_sub, ti_mul, Int32.reduceToInt] at *; omega)), hB⟩) (show ((1024 : Int32).toInt - (x4_16 + 1).toInt).toNat < ((1024 : Int32).toInt - x4_16.toInt).toNat from (by first | omega | decide | (simp only [Int32.le_iff_toInt_le, Int32.lt_iff_toInt_lt, ti_add, ti_sub, ti_mul, Int32.reduceToInt] at *; omega)))
              · refine ok_if (fun hc162 => ?_) (fun hc162 => ?_)
                · rw [J_X12_turns_127.eq_1]
                  refine ok_gC rfl ?_
                  refine ok_zbT (Q := fun V σ => V = 0 ∨ V = 1) hT (s_X12_isNested_229 hN (hR.tr hT) (hB) (by first | exact ha | (rw [hT.2 218 (by decide)]; exact ha)) (by first | omega | decide | (simp only [Int32.le_iff_toInt_le, Int32.lt_iff_toInt_lt, ti_add, ti_sub, ti_mul, Int32.reduceToInt] at *; omega))) (fun _ h9 => absurd h9 List.not_mem_nil) (fun v163 σ164 hOσ164 hT hqv163 => ?_)
                  have hqv163 : v163 = 0 ∨ v163 = 1 := hqv163
                  have hB : ZB σ164.1 := ZB.tr hOσ164 (by decide) hB
                  refine ok_if (fun hc165 => ?_) (fun hc165 => ?_)
                  · refine ok_gR (v := 227) hT rfl (hR 218 17 rfl) ?_
                    refine ok_s16 hT rfl (by decide) (by first | omega | decide | (simp only [Int32.le_iff_toInt_le, Int32.lt_iff_toInt_lt, ti_add, ti_sub, ti_mul, Int32.reduceToInt] at *; omega)) (by first | omega | decide | (simp only [Int32.le_iff_toInt_le, Int32.lt_iff_toInt_lt, ti_add, ti_sub, ti_mul, Int32.reduceToInt] at *; omega)) (fun σ167 eσ167 hOσ167 hT => ?_)
                    have hB : ZB σ167.1 := by first | exact HQ | exact ZB_s eσ167 hB
                    exact ih66_16 (x4_16 + 1, σ167) (show Tr [227, 228] σ0 σ167 ∧ (0 ≤ (x4_16 + 1).toInt) ∧ (ZB σ167.1) from ⟨hT, (by first | omega | decide | (simp only [Int32.le_iff_toInt_le, Int32.lt_iff_toInt_lt, ti_add, ti_sub, ti_mul, Int32.reduceToInt] at *; omega)), hB⟩) (show ((1024 : Int32).toInt - (x4_16 + 1).toInt).toNat < ((1024 : Int32).toInt - x4_16.toInt).toNat from (by first | omega | decide | (simp only [Int32.le_iff_toInt_le, Int32.lt_iff_toInt_lt, ti_add, ti_sub, ti_mul, Int32.reduceToInt] at *; omega)))
                  · refine ok_gR (v := 227) hT rfl (hR 218 17 rfl) ?_
                    refine ok_s16 hT rfl (by decide) (by first | omega | decide | (simp only [Int32.le_iff_toInt_le, Int32.lt_iff_toInt_lt, ti_add, ti_sub, ti_mul, Int32.reduceToInt] at *; omega)) (by first | omega | decide | (simp only [Int32.le_iff_toInt_le, Int32.lt_iff_toInt_lt, ti_add, ti_sub, ti_mul, Int32.reduceToInt] at *; omega)) (fun σ169 eσ169 hOσ169 hT => ?_)
                    have hB : ZB σ169.1 := by first | exact HQ | exact ZB_s eσ169 hB
                    exact ih66_16 (x4_16 + 1, σ169) (show Tr [227, 228] σ0 σ169 ∧ (0 ≤ (x4_16 + 1).toInt) ∧ (ZB σ169.1) from ⟨hT, (by first | omega | decide | (simp only [Int32.le_iff_toInt_le, Int32.lt_iff_toInt_lt, ti_add, ti_sub, ti_mul, Int32.reduceToInt] at *; omega)), hB⟩) (show ((1024 : Int32).toInt - (x4_16 + 1).toInt).toNat < ((1024 : Int32).toInt - x4_16.toInt).toNat from (by first | omega | decide | (simp only [Int32.le_iff_toInt_le, Int32.lt_iff_toInt_lt, ti_add, ti_sub, ti_mul, Int32.reduceToInt] at *; omega)))
                · rw [J_X12_turns_127.eq_1]
                  refine ok_gC rfl ?_
                  refine ok_zbT (Q := fun V σ => V = 0 ∨ V = 1) hT (s_X12_isNested_229 hN (hR.tr hT) (hB) (by first | exact ha | (rw [hT.2 218 (by decide)]; exact ha)) (by first | omega | decide | (simp only [Int32.le_iff_toInt_le, Int32.lt_iff_toInt_lt, ti_add, ti_sub, ti_mul, Int32.reduceToInt] at *; omega))) (fun _ h9 => absurd h9 List.not_mem_nil) (fun v170 σ171 hOσ171 hT hqv170 => ?_)
                  have hqv170 : v170 = 0 ∨ v170 = 1 := hqv170
                  have hB : ZB σ171.1 := ZB.tr hOσ171 (by decide) hB
                  refine ok_if (fun hc172 => ?_) (fun hc172 => ?_)
                  · refine ok_gR (v := 227) hT rfl (hR 218 17 rfl) ?_
                    refine ok_s16 hT rfl (by decide) (by first | omega | decide | (simp only [Int32.le_iff_toInt_le, Int32.lt_iff_toInt_lt, ti_add, ti_sub, ti_mul, Int32.reduceToInt] at *; omega)) (by first | omega | decide | (simp only [Int32.le_iff_toInt_le, Int32.lt_iff_toInt_lt, ti_add, ti_sub, ti_mul, Int32.reduceToInt] at *; omega)) (fun σ174 eσ174 hOσ174 hT => ?_)
                    have hB : ZB σ174.1 := by first | exact HQ | exact ZB_s eσ174 hB
                    exact ih66_16 (x4_16 + 1, σ174) (show Tr [227, 228] σ0 σ174 ∧ (0 ≤ (x4_16 + 1).toInt) ∧ (ZB σ174.1) from ⟨hT, (by first | omega | decide | (simp only [Int32.le_iff_toInt_le, Int32.lt_iff_toInt_lt, ti_add, ti_sub, ti_mul, Int32.reduceToInt] at *; omega)), hB⟩) (show ((1024 : Int32).toInt - (x4_16 + 1).toInt).toNat < ((1024 : Int32).toInt - x4_16.toInt).toNat from (by first | omega | decide | (simp only [Int32.le_iff_toInt_le, Int32.lt_iff_toInt_lt, ti_add, ti_sub, ti_mul, Int32.reduceToInt] at *; omega)))
                  · refine ok_gR (v := 227) hT rfl (hR 218 17 rfl) ?_
                    refine ok_s16 hT rfl (by decide) (by first | omega | decide | (simp only [Int32.le_iff_toInt_le, Int32.lt_iff_toInt_lt, ti_add, ti_sub, ti_mul, Int32.reduceToInt] at *; omega)) (by first | omega | decide | (simp only [Int32.le_iff_toInt_le, Int32.lt_iff_toInt_lt, ti_add, ti_sub, ti_mul, Int32.reduceToInt] at *; omega)) (fun σ176 eσ176 hOσ176 hT => ?_)
                    have hB : ZB σ176.1 := by first | exact HQ | exact ZB_s eσ176 hB
                    exact ih66_16 (x4_16 + 1, σ176) (show Tr [227, 228] σ0 σ176 ∧ (0 ≤ (x4_16 + 1).toInt) ∧ (ZB σ176.1) from ⟨hT, (by first | omega | decide | (simp only [Int32.le_iff_toInt_le, Int32.lt_iff_toInt_lt, ti_add, ti_sub, ti_mul, Int32.reduceToInt] at *; omega)), hB⟩) (show ((1024 : Int32).toInt - (x4_16 + 1).toInt).toNat < ((1024 : Int32).toInt - x4_16.toInt).toNat from (by first | omega | decide | (simp only [Int32.le_iff_toInt_le, Int32.lt_iff_toInt_lt, ti_add, ti_sub, ti_mul, Int32.reduceToInt] at *; omega)))
          · refine ok_if (fun hc177 => ?_) (fun hc177 => ?_)
            · refine ok_if (fun hc178 => ?_) (fun hc178 => ?_)
              · refine ok_gR (v := 227) hT rfl (hR 218 17 rfl) ?_
                refine ok_s16 hT rfl (by decide) (by first | omega | decide | (simp only [Int32.le_iff_toInt_le, Int32.lt_iff_toInt_lt, ti_add, ti_sub, ti_mul, Int32.reduceToInt] at *; omega)) (by first | omega | decide | (simp only [Int32.le_iff_toInt_le, Int32.lt_iff_toInt_lt, ti_add, ti_sub, ti_mul, Int32.reduceToInt] at *; omega)) (fun σ180 eσ180 hOσ180 hT => ?_)
                have hB : ZB σ180.1 := by first | exact HQ | exact ZB_s eσ180 hB
                exact ih66_16 (x4_16 + 1, σ180) (show Tr [227, 228] σ0 σ180 ∧ (0 ≤ (x4_16 + 1).toInt) ∧ (ZB σ180.1) from ⟨hT, (by first | omega | decide | (simp only [Int32.le_iff_toInt_le, Int32.lt_iff_toInt_lt, ti_add, ti_sub, ti_mul, Int32.reduceToInt] at *; omega)), hB⟩) (show ((1024 : Int32).toInt - (x4_16 + 1).toInt).toNat < ((1024 : Int32).toInt - x4_16.toInt).toNat from (by first | omega | decide | (simp only [Int32.le_iff_toInt_le, Int32.lt_iff_toInt_lt, ti_add, ti_sub, ti_mul, Int32.reduceToInt] at *; omega)))
              · refine ok_aIn rfl (by first | omega | decide | (simp only [Int32.le_iff_toInt_le, Int32.lt_iff_toInt_lt, ti_add, ti_sub, ti_mul, Int32.reduceToInt] at *; omega)) (by first | omega | decide | (simp only [Int32.le_iff_toInt_le, Int32.lt_iff_toInt_lt, ti_add, ti_sub, ti_mul, Int32.reduceToInt] at *; omega)) (fun v181 ev181 => ?_)
                have zv181 : v181 = 0 ∨ v181 = 1 := by rw [ev181]; exact hB 229 rfl _
                refine ok_if (fun hc182 => ?_) (fun hc182 => ?_)
                · refine ok_gR (v := 227) hT rfl (hR 218 17 rfl) ?_
                  refine ok_s16 hT rfl (by decide) (by first | omega | decide | (simp only [Int32.le_iff_toInt_le, Int32.lt_iff_toInt_lt, ti_add, ti_sub, ti_mul, Int32.reduceToInt] at *; omega)) (by first | omega | decide | (simp only [Int32.le_iff_toInt_le, Int32.lt_iff_toInt_lt, ti_add, ti_sub, ti_mul, Int32.reduceToInt] at *; omega)) (fun σ184 eσ184 hOσ184 hT => ?_)
                  have hB : ZB σ184.1 := by first | exact HQ | exact ZB_s eσ184 hB
                  exact ih66_16 (x4_16 + 1, σ184) (show Tr [227, 228] σ0 σ184 ∧ (0 ≤ (x4_16 + 1).toInt) ∧ (ZB σ184.1) from ⟨hT, (by first | omega | decide | (simp only [Int32.le_iff_toInt_le, Int32.lt_iff_toInt_lt, ti_add, ti_sub, ti_mul, Int32.reduceToInt] at *; omega)), hB⟩) (show ((1024 : Int32).toInt - (x4_16 + 1).toInt).toNat < ((1024 : Int32).toInt - x4_16.toInt).toNat from (by first | omega | decide | (simp only [Int32.le_iff_toInt_le, Int32.lt_iff_toInt_lt, ti_add, ti_sub, ti_mul, Int32.reduceToInt] at *; omega)))
                · refine ok_gR (v := 227) hT rfl (hR 218 17 rfl) ?_
                  refine ok_s16 hT rfl (by decide) (by first | omega | decide | (simp only [Int32.le_iff_toInt_le, Int32.lt_iff_toInt_lt, ti_add, ti_sub, ti_mul, Int32.reduceToInt] at *; omega)) (by first | omega | decide | (simp only [Int32.le_iff_toInt_le, Int32.lt_iff_toInt_lt, ti_add, ti_sub, ti_mul, Int32.reduceToInt] at *; omega)) (fun σ186 eσ186 hOσ186 hT => ?_)
                  have hB : ZB σ186.1 := by first | exact HQ | exact ZB_s eσ186 hB
                  exact ih66_16 (x4_16 + 1, σ186) (show Tr [227, 228] σ0 σ186 ∧ (0 ≤ (x4_16 + 1).toInt) ∧ (ZB σ186.1) from ⟨hT, (by first | omega | decide | (simp only [Int32.le_iff_toInt_le, Int32.lt_iff_toInt_lt, ti_add, ti_sub, ti_mul, Int32.reduceToInt] at *; omega)), hB⟩) (show ((1024 : Int32).toInt - (x4_16 + 1).toInt).toNat < ((1024 : Int32).toInt - x4_16.toInt).toNat from (by first | omega | decide | (simp only [Int32.le_iff_toInt_le, Int32.lt_iff_toInt_lt, ti_add, ti_sub, ti_mul, Int32.reduceToInt] at *; omega)))
            · refine ok_if (fun hc187 => ?_) (fun hc187 => ?_)
              · rw [J_X12_turns_182.eq_1]
                refine ok_if (fun hc188 => ?_) (fun hc188 => ?_)
                · refine ok_gR (v := 227) hT rfl (hR 218 17 rfl) ?_
                  refine ok_s16 hT rfl (by decide) (by first | omega | decide | (simp only [Int32.le_iff_toInt_le, Int32.lt_iff_toInt_lt, ti_add, ti_sub, ti_mul, Int32.reduceToInt] at *; omega)) (by first | omega | decide | (simp only [Int32.le_iff_toInt_le, Int32.lt_iff_toInt_lt, ti_add, ti_sub, ti_mul, Int32.reduceToInt] at *; omega)) (fun σ190 eσ190 hOσ190 hT => ?_)
                  have hB : ZB σ190.1 := by first | exact HQ | exact ZB_s eσ190 hB
                  exact ih66_16 (x4_16 + 1, σ190) (show Tr [227, 228] σ0 σ190 ∧ (0 ≤ (x4_16 + 1).toInt) ∧ (ZB σ190.1) from ⟨hT, (by first | omega | decide | (simp only [Int32.le_iff_toInt_le, Int32.lt_iff_toInt_lt, ti_add, ti_sub, ti_mul, Int32.reduceToInt] at *; omega)), hB⟩) (show ((1024 : Int32).toInt - (x4_16 + 1).toInt).toNat < ((1024 : Int32).toInt - x4_16.toInt).toNat from (by first | omega | decide | (simp only [Int32.le_iff_toInt_le, Int32.lt_iff_toInt_lt, ti_add, ti_sub, ti_mul, Int32.reduceToInt] at *; omega)))
                · refine ok_aIn rfl (by first | omega | decide | (simp only [Int32.le_iff_toInt_le, Int32.lt_iff_toInt_lt, ti_add, ti_sub, ti_mul, Int32.reduceToInt] at *; omega)) (by first | omega | decide | (simp only [Int32.le_iff_toInt_le, Int32.lt_iff_toInt_lt, ti_add, ti_sub, ti_mul, Int32.reduceToInt] at *; omega)) (fun v191 ev191 => ?_)
                  have zv191 : v191 = 0 ∨ v191 = 1 := by rw [ev191]; exact hB 229 rfl _
                  refine ok_if (fun hc192 => ?_) (fun hc192 => ?_)
                  · refine ok_if (fun hc193 => ?_) (fun hc193 => ?_)
                    · rw [J_X12_turns_211.eq_1]
                      refine ok_gC rfl ?_
                      refine ok_zbT (Q := fun V σ => V = 0 ∨ V = 1) hT (s_X12_isNested_229 hN (hR.tr hT) (hB) (by first | exact ha | (rw [hT.2 218 (by decide)]; exact ha)) (by first | omega | decide | (simp only [Int32.le_iff_toInt_le, Int32.lt_iff_toInt_lt, ti_add, ti_sub, ti_mul, Int32.reduceToInt] at *; omega))) (fun _ h9 => absurd h9 List.not_mem_nil) (fun v194 σ195 hOσ195 hT hqv194 => ?_)
                      have hqv194 : v194 = 0 ∨ v194 = 1 := hqv194
                      have hB : ZB σ195.1 := ZB.tr hOσ195 (by decide) hB
                      refine ok_if (fun hc196 => ?_) (fun hc196 => ?_)
                      · refine ok_gR (v := 227) hT rfl (hR 218 17 rfl) ?_
                        refine ok_s16 hT rfl (by decide) (by first | omega | decide | (simp only [Int32.le_iff_toInt_le, Int32.lt_iff_toInt_lt, ti_add, ti_sub, ti_mul, Int32.reduceToInt] at *; omega)) (by first | omega | decide | (simp only [Int32.le_iff_toInt_le, Int32.lt_iff_toInt_lt, ti_add, ti_sub, ti_mul, Int32.reduceToInt] at *; omega)) (fun σ198 eσ198 hOσ198 hT => ?_)
                        have hB : ZB σ198.1 := by first | exact HQ | exact ZB_s eσ198 hB
                        exact ih66_16 (x4_16 + 1, σ198) (show Tr [227, 228] σ0 σ198 ∧ (0 ≤ (x4_16 + 1).toInt) ∧ (ZB σ198.1) from ⟨hT, (by first | omega | decide | (simp only [Int32.le_iff_toInt_le, Int32.lt_iff_toInt_lt, ti_add, ti_sub, ti_mul, Int32.reduceToInt] at *; omega)), hB⟩) (show ((1024 : Int32).toInt - (x4_16 + 1).toInt).toNat < ((1024 : Int32).toInt - x4_16.toInt).toNat from (by first | omega | decide | (simp only [Int32.le_iff_toInt_le, Int32.lt_iff_toInt_lt, ti_add, ti_sub, ti_mul, Int32.reduceToInt] at *; omega)))
                      · refine ok_gR (v := 227) hT rfl (hR 218 17 rfl) ?_
                        refine ok_s16 hT rfl (by decide) (by first | omega | decide | (simp only [Int32.le_iff_toInt_le, Int32.lt_iff_toInt_lt, ti_add, ti_sub, ti_mul, Int32.reduceToInt] at *; omega)) (by first | omega | decide | (simp only [Int32.le_iff_toInt_le, Int32.lt_iff_toInt_lt, ti_add, ti_sub, ti_mul, Int32.reduceToInt] at *; omega)) (fun σ200 eσ200 hOσ200 hT => ?_)
                        have hB : ZB σ200.1 := by first | exact HQ | exact ZB_s eσ200 hB
                        exact ih66_16 (x4_16 + 1, σ200) (show Tr [227, 228] σ0 σ200 ∧ (0 ≤ (x4_16 + 1).toInt) ∧ (ZB σ200.1) from ⟨hT, (by first | omega | decide | (simp only [Int32.le_iff_toInt_le, Int32.lt_iff_toInt_lt, ti_add, ti_sub, ti_mul, Int32.reduceToInt] at *; omega)), hB⟩) (show ((1024 : Int32).toInt - (x4_16 + 1).toInt).toNat < ((1024 : Int32).toInt - x4_16.toInt).toNat from (by first | omega | decide | (simp only [Int32.le_iff_toInt_le, Int32.lt_iff_toInt_lt, ti_add, ti_sub, ti_mul, Int32.reduceToInt] at *; omega)))
                    · rw [J_X12_turns_211.eq_1]
                      refine ok_gC rfl ?_
                      refine ok_zbT (Q := fun V σ => V = 0 ∨ V = 1) hT (s_X12_isNested_229 hN (hR.tr hT) (hB) (by first | exact ha | (rw [hT.2 218 (by decide)]; exact ha)) (by first | omega | decide | (simp only [Int32.le_iff_toInt_le, Int32.lt_iff_toInt_lt, ti_add, ti_sub, ti_mul, Int32.reduceToInt] at *; omega))) (fun _ h9 => absurd h9 List.not_mem_nil) (fun v201 σ202 hOσ202 hT hqv201 => ?_)
                      have hqv201 : v201 = 0 ∨ v201 = 1 := hqv201
                      have hB : ZB σ202.1 := ZB.tr hOσ202 (by decide) hB
                      refine ok_if (fun hc203 => ?_) (fun hc203 => ?_)
                      · refine ok_gR (v := 227) hT rfl (hR 218 17 rfl) ?_
                        refine ok_s16 hT rfl (by decide) (by first | omega | decide | (simp only [Int32.le_iff_toInt_le, Int32.lt_iff_toInt_lt, ti_add, ti_sub, ti_mul, Int32.reduceToInt] at *; omega)) (by first | omega | decide | (simp only [Int32.le_iff_toInt_le, Int32.lt_iff_toInt_lt, ti_add, ti_sub, ti_mul, Int32.reduceToInt] at *; omega)) (fun σ205 eσ205 hOσ205 hT => ?_)
                        have hB : ZB σ205.1 := by first | exact HQ | exact ZB_s eσ205 hB
                        exact ih66_16 (x4_16 + 1, σ205) (show Tr [227, 228] σ0 σ205 ∧ (0 ≤ (x4_16 + 1).toInt) ∧ (ZB σ205.1) from ⟨hT, (by first | omega | decide | (simp only [Int32.le_iff_toInt_le, Int32.lt_iff_toInt_lt, ti_add, ti_sub, ti_mul, Int32.reduceToInt] at *; omega)), hB⟩) (show ((1024 : Int32).toInt - (x4_16 + 1).toInt).toNat < ((1024 : Int32).toInt - x4_16.toInt).toNat from (by first | omega | decide | (simp only [Int32.le_iff_toInt_le, Int32.lt_iff_toInt_lt, ti_add, ti_sub, ti_mul, Int32.reduceToInt] at *; omega)))
                      · refine ok_gR (v := 227) hT rfl (hR 218 17 rfl) ?_
                        refine ok_s16 hT rfl (by decide) (by first | omega | decide | (simp only [Int32.le_iff_toInt_le, Int32.lt_iff_toInt_lt, ti_add, ti_sub, ti_mul, Int32.reduceToInt] at *; omega)) (by first | omega | decide | (simp only [Int32.le_iff_toInt_le, Int32.lt_iff_toInt_lt, ti_add, ti_sub, ti_mul, Int32.reduceToInt] at *; omega)) (fun σ207 eσ207 hOσ207 hT => ?_)
                        have hB : ZB σ207.1 := by first | exact HQ | exact ZB_s eσ207 hB
                        exact ih66_16 (x4_16 + 1, σ207) (show Tr [227, 228] σ0 σ207 ∧ (0 ≤ (x4_16 + 1).toInt) ∧ (ZB σ207.1) from ⟨hT, (by first | omega | decide | (simp only [Int32.le_iff_toInt_le, Int32.lt_iff_toInt_lt, ti_add, ti_sub, ti_mul, Int32.reduceToInt] at *; omega)), hB⟩) (show ((1024 : Int32).toInt - (x4_16 + 1).toInt).toNat < ((1024 : Int32).toInt - x4_16.toInt).toNat from (by first | omega | decide | (simp only [Int32.le_iff_toInt_le, Int32.lt_iff_toInt_lt, ti_add, ti_sub, ti_mul, Int32.reduceToInt] at *; omega)))
                  · refine ok_gR (v := 227) hT rfl (hR 218 17 rfl) ?_
                    refine ok_s16 hT rfl (by decide) (by first | omega | decide | (simp only [Int32.le_iff_toInt_le, Int32.lt_iff_toInt_lt, ti_add, ti_sub, ti_mul, Int32.reduceToInt] at *; omega)) (by first | omega | decide | (simp only [Int32.le_iff_toInt_le, Int32.lt_iff_toInt_lt, ti_add, ti_sub, ti_mul, Int32.reduceToInt] at *; omega)) (fun σ209 eσ209 hOσ209 hT => ?_)
                    have hB : ZB σ209.1 := by first | exact HQ | exact ZB_s eσ209 hB
                    exact ih66_16 (x4_16 + 1, σ209) (show Tr [227, 228] σ0 σ209 ∧ (0 ≤ (x4_16 + 1).toInt) ∧ (ZB σ209.1) from ⟨hT, (by first | omega | decide | (simp only [Int32.le_iff_toInt_le, Int32.lt_iff_toInt_lt, ti_add, ti_sub, ti_mul, Int32.reduceToInt] at *; omega)), hB⟩) (show ((1024 : Int32).toInt - (x4_16 + 1).toInt).toNat < ((1024 : Int32).toInt - x4_16.toInt).toNat from (by first | omega | decide | (simp only [Int32.le_iff_toInt_le, Int32.lt_iff_toInt_lt, ti_add, ti_sub, ti_mul, Int32.reduceToInt] at *; omega)))
              · refine ok_if (fun hc210 => ?_) (fun hc210 => ?_)
                · rw [J_X12_turns_182.eq_1]
                  refine ok_if (fun hc211 => ?_) (fun hc211 => ?_)
                  · refine ok_gR (v := 227) hT rfl (hR 218 17 rfl) ?_
                    refine ok_s16 hT rfl (by decide) (by first | omega | decide | (simp only [Int32.le_iff_toInt_le, Int32.lt_iff_toInt_lt, ti_add, ti_sub, ti_mul, Int32.reduceToInt] at *; omega)) (by first | omega | decide | (simp only [Int32.le_iff_toInt_le, Int32.lt_iff_toInt_lt, ti_add, ti_sub, ti_mul, Int32.reduceToInt] at *; omega)) (fun σ213 eσ213 hOσ213 hT => ?_)
                    have hB : ZB σ213.1 := by first | exact HQ | exact ZB_s eσ213 hB
                    exact ih66_16 (x4_16 + 1, σ213) (show Tr [227, 228] σ0 σ213 ∧ (0 ≤ (x4_16 + 1).toInt) ∧ (ZB σ213.1) from ⟨hT, (by first | omega | decide | (simp only [Int32.le_iff_toInt_le, Int32.lt_iff_toInt_lt, ti_add, ti_sub, ti_mul, Int32.reduceToInt] at *; omega)), hB⟩) (show ((1024 : Int32).toInt - (x4_16 + 1).toInt).toNat < ((1024 : Int32).toInt - x4_16.toInt).toNat from (by first | omega | decide | (simp only [Int32.le_iff_toInt_le, Int32.lt_iff_toInt_lt, ti_add, ti_sub, ti_mul, Int32.reduceToInt] at *; omega)))
                  · refine ok_aIn rfl (by first | omega | decide | (simp only [Int32.le_iff_toInt_le, Int32.lt_iff_toInt_lt, ti_add, ti_sub, ti_mul, Int32.reduceToInt] at *; omega)) (by first | omega | decide | (simp only [Int32.le_iff_toInt_le, Int32.lt_iff_toInt_lt, ti_add, ti_sub, ti_mul, Int32.reduceToInt] at *; omega)) (fun v214 ev214 => ?_)
                    have zv214 : v214 = 0 ∨ v214 = 1 := by rw [ev214]; exact hB 229 rfl _
                    refine ok_if (fun hc215 => ?_) (fun hc215 => ?_)
                    · refine ok_if (fun hc216 => ?_) (fun hc216 => ?_)
                      · rw [J_X12_turns_211.eq_1]
                        refine ok_gC rfl ?_
                        refine ok_zbT (Q := fun V σ => V = 0 ∨ V = 1) hT (s_X12_isNested_229 hN (hR.tr hT) (hB) (by first | exact ha | (rw [hT.2 218 (by decide)]; exact ha)) (by first | omega | decide | (simp only [Int32.le_iff_toInt_le, Int32.lt_iff_toInt_lt, ti_add, ti_sub, ti_mul, Int32.reduceToInt] at *; omega))) (fun _ h9 => absurd h9 List.not_mem_nil) (fun v217 σ218 hOσ218 hT hqv217 => ?_)
                        have hqv217 : v217 = 0 ∨ v217 = 1 := hqv217
                        have hB : ZB σ218.1 := ZB.tr hOσ218 (by decide) hB
                        refine ok_if (fun hc219 => ?_) (fun hc219 => ?_)
                        · refine ok_gR (v := 227) hT rfl (hR 218 17 rfl) ?_
                          refine ok_s16 hT rfl (by decide) (by first | omega | decide | (simp only [Int32.le_iff_toInt_le, Int32.lt_iff_toInt_lt, ti_add, ti_sub, ti_mul, Int32.reduceToInt] at *; omega)) (by first | omega | decide | (simp only [Int32.le_iff_toInt_le, Int32.lt_iff_toInt_lt, ti_add, ti_sub, ti_mul, Int32.reduceToInt] at *; omega)) (fun σ221 eσ221 hOσ221 hT => ?_)
                          have hB : ZB σ221.1 := by first | exact HQ | exact ZB_s eσ221 hB
                          exact ih66_16 (x4_16 + 1, σ221) (show Tr [227, 228] σ0 σ221 ∧ (0 ≤ (x4_16 + 1).toInt) ∧ (ZB σ221.1) from ⟨hT, (by first | omega | decide | (simp only [Int32.le_iff_toInt_le, Int32.lt_iff_toInt_lt, ti_add, ti_sub, ti_mul, Int32.reduceToInt] at *; omega)), hB⟩) (show ((1024 : Int32).toInt - (x4_16 + 1).toInt).toNat < ((1024 : Int32).toInt - x4_16.toInt).toNat from (by first | omega | decide | (simp only [Int32.le_iff_toInt_le, Int32.lt_iff_toInt_lt, ti_add, ti_sub, ti_mul, Int32.reduceToInt] at *; omega)))
                        · refine ok_gR (v := 227) hT rfl (hR 218 17 rfl) ?_
                          refine ok_s16 hT rfl (by decide) (by first | omega | decide | (simp only [Int32.le_iff_toInt_le, Int32.lt_iff_toInt_lt, ti_add, ti_sub, ti_mul, Int32.reduceToInt] at *; omega)) (by first | omega | decide | (simp only [Int32.le_iff_toInt_le, Int32.lt_iff_toInt_lt, ti_add, ti_sub, ti_mul, Int32.reduceToInt] at *; omega)) (fun σ223 eσ223 hOσ223 hT => ?_)
                          have hB : ZB σ223.1 := by first | exact HQ | exact ZB_s eσ223 hB
                          exact ih66_16 (x4_16 + 1, σ223) (show Tr [227, 228] σ0 σ223 ∧ (0 ≤ (x4_16 + 1).toInt) ∧ (ZB σ223.1) from ⟨hT, (by first | omega | decide | (simp only [Int32.le_iff_toInt_le, Int32.lt_iff_toInt_lt, ti_add, ti_sub, ti_mul, Int32.reduceToInt] at *; omega)), hB⟩) (show ((1024 : Int32).toInt - (x4_16 + 1).toInt).toNat < ((1024 : Int32).toInt - x4_16.toInt).toNat from (by first | omega | decide | (simp only [Int32.le_iff_toInt_le, Int32.lt_iff_toInt_lt, ti_add, ti_sub, ti_mul, Int32.reduceToInt] at *; omega)))
                      · rw [J_X12_turns_211.eq_1]
                        refine ok_gC rfl ?_
                        refine ok_zbT (Q := fun V σ => V = 0 ∨ V = 1) hT (s_X12_isNested_229 hN (hR.tr hT) (hB) (by first | exact ha | (rw [hT.2 218 (by decide)]; exact ha)) (by first | omega | decide | (simp only [Int32.le_iff_toInt_le, Int32.lt_iff_toInt_lt, ti_add, ti_sub, ti_mul, Int32.reduceToInt] at *; omega))) (fun _ h9 => absurd h9 List.not_mem_nil) (fun v224 σ225 hOσ225 hT hqv224 => ?_)
                        have hqv224 : v224 = 0 ∨ v224 = 1 := hqv224
                        have hB : ZB σ225.1 := ZB.tr hOσ225 (by decide) hB
                        refine ok_if (fun hc226 => ?_) (fun hc226 => ?_)
                        · refine ok_gR (v := 227) hT rfl (hR 218 17 rfl) ?_
                          refine ok_s16 hT rfl (by decide) (by first | omega | decide | (simp only [Int32.le_iff_toInt_le, Int32.lt_iff_toInt_lt, ti_add, ti_sub, ti_mul, Int32.reduceToInt] at *; omega)) (by first | omega | decide | (simp only [Int32.le_iff_toInt_le, Int32.lt_iff_toInt_lt, ti_add, ti_sub, ti_mul, Int32.reduceToInt] at *; omega)) (fun σ228 eσ228 hOσ228 hT => ?_)
                          have hB : ZB σ228.1 := by first | exact HQ | exact ZB_s eσ228 hB
                          exact ih66_16 (x4_16 + 1, σ228) (show Tr [227, 228] σ0 σ228 ∧ (0 ≤ (x4_16 + 1).toInt) ∧ (ZB σ228.1) from ⟨hT, (by first | omega | decide | (simp only [Int32.le_iff_toInt_le, Int32.lt_iff_toInt_lt, ti_add, ti_sub, ti_mul, Int32.reduceToInt] at *; omega)), hB⟩) (show ((1024 : Int32).toInt - (x4_16 + 1).toInt).toNat < ((1024 : Int32).toInt - x4_16.toInt).toNat from (by first | omega | decide | (simp only [Int32.le_iff_toInt_le, Int32.lt_iff_toInt_lt, ti_add, ti_sub, ti_mul, Int32.reduceToInt] at *; omega)))
                        · refine ok_gR (v := 227) hT rfl (hR 218 17 rfl) ?_
                          refine ok_s16 hT rfl (by decide) (by first | omega | decide | (simp only [Int32.le_iff_toInt_le, Int32.lt_iff_toInt_lt, ti_add, ti_sub, ti_mul, Int32.reduceToInt] at *; omega)) (by first | omega | decide | (simp only [Int32.le_iff_toInt_le, Int32.lt_iff_toInt_lt, ti_add, ti_sub, ti_mul, Int32.reduceToInt] at *; omega)) (fun σ230 eσ230 hOσ230 hT => ?_)
                          have hB : ZB σ230.1 := by first | exact HQ | exact ZB_s eσ230 hB
                          exact ih66_16 (x4_16 + 1, σ230) (show Tr [227, 228] σ0 σ230 ∧ (0 ≤ (x4_16 + 1).toInt) ∧ (ZB σ230.1) from ⟨hT, (by first | omega | decide | (simp only [Int32.le_iff_toInt_le, Int32.lt_iff_toInt_lt, ti_add, ti_sub, ti_mul, Int32.reduceToInt] at *; omega)), hB⟩) (show ((1024 : Int32).toInt - (x4_16 + 1).toInt).toNat < ((1024 : Int32).toInt - x4_16.toInt).toNat from (by first | omega | decide | (simp only [Int32.le_iff_toInt_le, Int32.lt_iff_toInt_lt, ti_add, ti_sub, ti_mul, Int32.reduceToInt] at *; omega)))
                    · refine ok_gR (v := 227) hT rfl (hR 218 17 rfl) ?_
                      refine ok_s16 hT rfl (by decide) (by first | omega | decide | (simp only [Int32.le_iff_toInt_le, Int32.lt_iff_toInt_lt, ti_add, ti_sub, ti_mul, Int32.reduceToInt] at *; omega)) (by first | omega | decide | (simp only [Int32.le_iff_toInt_le, Int32.lt_iff_toInt_lt, ti_add, ti_sub, ti_mul, Int32.reduceToInt] at *; omega)) (fun σ232 eσ232 hOσ232 hT => ?_)
                      have hB : ZB σ232.1 := by first | exact HQ | exact ZB_s eσ232 hB
                      exact ih66_16 (x4_16 + 1, σ232) (show Tr [227, 228] σ0 σ232 ∧ (0 ≤ (x4_16 + 1).toInt) ∧ (ZB σ232.1) from ⟨hT, (by first | omega | decide | (simp only [Int32.le_iff_toInt_le, Int32.lt_iff_toInt_lt, ti_add, ti_sub, ti_mul, Int32.reduceToInt] at *; omega)), hB⟩) (show ((1024 : Int32).toInt - (x4_16 + 1).toInt).toNat < ((1024 : Int32).toInt - x4_16.toInt).toNat from (by first | omega | decide | (simp only [Int32.le_iff_toInt_le, Int32.lt_iff_toInt_lt, ti_add, ti_sub, ti_mul, Int32.reduceToInt] at *; omega)))
                · refine ok_if (fun hc233 => ?_) (fun hc233 => ?_)
                  · refine ok_gR (v := 227) hT rfl (hR 218 17 rfl) ?_
                    refine ok_s16 hT rfl (by decide) (by first | omega | decide | (simp only [Int32.le_iff_toInt_le, Int32.lt_iff_toInt_lt, ti_add, ti_sub, ti_mul, Int32.reduceToInt] at *; omega)) (by first | omega | decide | (simp only [Int32.le_iff_toInt_le, Int32.lt_iff_toInt_lt, ti_add, ti_sub, ti_mul, Int32.reduceToInt] at *; omega)) (fun σ235 eσ235 hOσ235 hT => ?_)
                    have hB : ZB σ235.1 := by first | exact HQ | exact ZB_s eσ235 hB
                    exact ih66_16 (x4_16 + 1, σ235) (show Tr [227, 228] σ0 σ235 ∧ (0 ≤ (x4_16 + 1).toInt) ∧ (ZB σ235.1) from ⟨hT, (by first | omega | decide | (simp only [Int32.le_iff_toInt_le, Int32.lt_iff_toInt_lt, ti_add, ti_sub, ti_mul, Int32.reduceToInt] at *; omega)), hB⟩) (show ((1024 : Int32).toInt - (x4_16 + 1).toInt).toNat < ((1024 : Int32).toInt - x4_16.toInt).toNat from (by first | omega | decide | (simp only [Int32.le_iff_toInt_le, Int32.lt_iff_toInt_lt, ti_add, ti_sub, ti_mul, Int32.reduceToInt] at *; omega)))
                  · refine ok_aIn rfl (by first | omega | decide | (simp only [Int32.le_iff_toInt_le, Int32.lt_iff_toInt_lt, ti_add, ti_sub, ti_mul, Int32.reduceToInt] at *; omega)) (by first | omega | decide | (simp only [Int32.le_iff_toInt_le, Int32.lt_iff_toInt_lt, ti_add, ti_sub, ti_mul, Int32.reduceToInt] at *; omega)) (fun v236 ev236 => ?_)
                    have zv236 : v236 = 0 ∨ v236 = 1 := by rw [ev236]; exact hB 229 rfl _
                    refine ok_if (fun hc237 => ?_) (fun hc237 => ?_)
                    · refine ok_gR (v := 227) hT rfl (hR 218 17 rfl) ?_
                      refine ok_s16 hT rfl (by decide) (by first | omega | decide | (simp only [Int32.le_iff_toInt_le, Int32.lt_iff_toInt_lt, ti_add, ti_sub, ti_mul, Int32.reduceToInt] at *; omega)) (by first | omega | decide | (simp only [Int32.le_iff_toInt_le, Int32.lt_iff_toInt_lt, ti_add, ti_sub, ti_mul, Int32.reduceToInt] at *; omega)) (fun σ239 eσ239 hOσ239 hT => ?_)
                      have hB : ZB σ239.1 := by first | exact HQ | exact ZB_s eσ239 hB
                      exact ih66_16 (x4_16 + 1, σ239) (show Tr [227, 228] σ0 σ239 ∧ (0 ≤ (x4_16 + 1).toInt) ∧ (ZB σ239.1) from ⟨hT, (by first | omega | decide | (simp only [Int32.le_iff_toInt_le, Int32.lt_iff_toInt_lt, ti_add, ti_sub, ti_mul, Int32.reduceToInt] at *; omega)), hB⟩) (show ((1024 : Int32).toInt - (x4_16 + 1).toInt).toNat < ((1024 : Int32).toInt - x4_16.toInt).toNat from (by first | omega | decide | (simp only [Int32.le_iff_toInt_le, Int32.lt_iff_toInt_lt, ti_add, ti_sub, ti_mul, Int32.reduceToInt] at *; omega)))
                    · refine ok_gR (v := 227) hT rfl (hR 218 17 rfl) ?_
                      refine ok_s16 hT rfl (by decide) (by first | omega | decide | (simp only [Int32.le_iff_toInt_le, Int32.lt_iff_toInt_lt, ti_add, ti_sub, ti_mul, Int32.reduceToInt] at *; omega)) (by first | omega | decide | (simp only [Int32.le_iff_toInt_le, Int32.lt_iff_toInt_lt, ti_add, ti_sub, ti_mul, Int32.reduceToInt] at *; omega)) (fun σ241 eσ241 hOσ241 hT => ?_)
                      have hB : ZB σ241.1 := by first | exact HQ | exact ZB_s eσ241 hB
                      exact ih66_16 (x4_16 + 1, σ241) (show Tr [227, 228] σ0 σ241 ∧ (0 ≤ (x4_16 + 1).toInt) ∧ (ZB σ241.1) from ⟨hT, (by first | omega | decide | (simp only [Int32.le_iff_toInt_le, Int32.lt_iff_toInt_lt, ti_add, ti_sub, ti_mul, Int32.reduceToInt] at *; omega)), hB⟩) (show ((1024 : Int32).toInt - (x4_16 + 1).toInt).toNat < ((1024 : Int32).toInt - x4_16.toInt).toNat from (by first | omega | decide | (simp only [Int32.le_iff_toInt_le, Int32.lt_iff_toInt_lt, ti_add, ti_sub, ti_mul, Int32.reduceToInt] at *; omega)))
end Zq6_0
section Zq6_1
theorem MW_one {S : List Nat} {σ0 σ : zS} {i : Int32} (hT : Tr S σ0 σ) (hS : 219 ∉ S) (h : MW (σ0.1 219) 0) (h0 : 0 ≤ i.toInt) (h1 : i.toInt < 10) : 0 ≤ (σ.1 219 (13 + i).toNatClampNeg).toInt ∧ (σ.1 219 (13 + i).toNatClampNeg).toInt ≤ 7 := by
  have e1 : (13 + i).toNatClampNeg = 0 + 13 + i.toInt.toNat := by
    show (13 + i).toInt.toNat = _
    rw [ti_add]; simp only [Int32.reduceToInt]; omega
  rw [hT.2 _ hS, e1]
  exact (h.2.2.1 _ (by omega)).1
theorem MW_other {S : List Nat} {σ0 σ : zS} {i : Int32} (hT : Tr S σ0 σ) (hS : 219 ∉ S) (h : MW (σ0.1 219) 0) (h0 : 0 ≤ i.toInt) (h1 : i.toInt < 10) : 0 ≤ (σ.1 219 (23 + i).toNatClampNeg).toInt ∧ (σ.1 219 (23 + i).toNatClampNeg).toInt ≤ 7 := by
  have e1 : (23 + i).toNatClampNeg = 0 + 23 + i.toInt.toNat := by
    show (23 + i).toInt.toNat = _
    rw [ti_add]; simp only [Int32.reduceToInt]; omega
  rw [hT.2 _ hS, e1]
  exact (h.2.2.1 _ (by omega)).2
theorem or8 {a b : Int32} (ha : 0 ≤ a.toInt ∧ a.toInt ≤ 255) (hb : 0 ≤ b.toInt ∧ b.toInt ≤ 255) : 0 ≤ (a ||| b).toInt ∧ (a ||| b).toInt ≤ 255 := by
  have := ti_or (a := a) (b := b) (n := 8) (by decide) ha.1 (by have e : ((2 ^ 8 : Nat) : Int) = 256 := rfl; omega) hb.1 (by have e : ((2 ^ 8 : Nat) : Int) = 256 := rfl; omega)
  have e : ((2 ^ 8 : Nat) : Int) = 256 := rfl
  omega
theorem bit_lt : ∀ n, n < 256 → n ≠ 0 → ∃ k, k < 8 ∧ ((nI n >>> (nI k &&& 31)) &&& 1) ≠ 0 := by decide +kernel
theorem bit_ex {x : Int32} (h0 : 0 ≤ x.toInt) (h1 : x.toInt ≤ 255) (h : ¬ x = 0) : ∃ k : Nat, k < 8 ∧ ((x >>> (nI k &&& 31)) &&& 1) ≠ 0 := by
  obtain ⟨n, hn, rfl⟩ := znI (m := 256) h0 (by omega)
  exact bit_lt n hn (fun q => h (by rw [q]; rfl))

set_option maxHeartbeats 4000000 in
set_option maxRecDepth 100000 in
theorem s_X12_one {N : Nat} (hN : 1048576 ≤ N) {x1 : Int32} {σ0 : zS}  (hR : RF σ0.2.2) (hM : MW (σ0.1 219) 0) (he1 : 0 ≤ x1.toInt ∧ x1.toInt ≤ 9) : Ok (f_X12_one N 218 x1 σ0) (fun r => Tr [] σ0 r.2 ∧ (0 ≤ r.1.toInt ∧ r.1.toInt ≤ 7)) := by
  have hT : Tr [] σ0 σ0 := Tr.rf
  have hn := hM.1
  have he : 0 ≤ (σ0.1 219 2).toInt ∧ (σ0.1 219 2).toInt ≤ 10 := hM.2.1
  have qm := mny_b hn.1 hn.2
  rw [f_X12_one.eq_1]
  refine ok_gR (v := 219) hT rfl (hR 218 1 rfl) ?_
  refine ok_aIn rfl (by first | omega | decide | (simp only [Int32.le_iff_toInt_le, Int32.lt_iff_toInt_lt, ti_add, ti_sub, ti_mul, Int32.reduceToInt] at *; omega)) (by first | omega | decide | (simp only [Int32.le_iff_toInt_le, Int32.lt_iff_toInt_lt, ti_add, ti_sub, ti_mul, Int32.reduceToInt] at *; omega)) (fun v2 ev2 => ?_)
  have q7 : 0 ≤ v2.toInt ∧ v2.toInt ≤ 7 := by rw [ev2]; exact MW_one (i := x1) hT (by decide) hM (by omega) (by omega)
  exact ok_some ⟨hT, (show 0 ≤ v2.toInt ∧ v2.toInt ≤ 7 from by first | omega | decide | (simp only [Int32.le_iff_toInt_le, Int32.lt_iff_toInt_lt, ti_add, ti_sub, ti_mul, Int32.reduceToInt] at *; omega))⟩

set_option maxHeartbeats 4000000 in
set_option maxRecDepth 100000 in
theorem s_X12_other {N : Nat} (hN : 1048576 ≤ N) {x1 : Int32} {σ0 : zS}  (hR : RF σ0.2.2) (hM : MW (σ0.1 219) 0) (he1 : 0 ≤ x1.toInt ∧ x1.toInt ≤ 9) : Ok (f_X12_other N 218 x1 σ0) (fun r => Tr [] σ0 r.2 ∧ (0 ≤ r.1.toInt ∧ r.1.toInt ≤ 7)) := by
  have hT : Tr [] σ0 σ0 := Tr.rf
  have hn := hM.1
  have he : 0 ≤ (σ0.1 219 2).toInt ∧ (σ0.1 219 2).toInt ≤ 10 := hM.2.1
  have qm := mny_b hn.1 hn.2
  rw [f_X12_other.eq_1]
  refine ok_gR (v := 219) hT rfl (hR 218 1 rfl) ?_
  refine ok_aIn rfl (by first | omega | decide | (simp only [Int32.le_iff_toInt_le, Int32.lt_iff_toInt_lt, ti_add, ti_sub, ti_mul, Int32.reduceToInt] at *; omega)) (by first | omega | decide | (simp only [Int32.le_iff_toInt_le, Int32.lt_iff_toInt_lt, ti_add, ti_sub, ti_mul, Int32.reduceToInt] at *; omega)) (fun v2 ev2 => ?_)
  have q7 : 0 ≤ v2.toInt ∧ v2.toInt ≤ 7 := by rw [ev2]; exact MW_other (i := x1) hT (by decide) hM (by omega) (by omega)
  exact ok_some ⟨hT, (show 0 ≤ v2.toInt ∧ v2.toInt ≤ 7 from by first | omega | decide | (simp only [Int32.le_iff_toInt_le, Int32.lt_iff_toInt_lt, ti_add, ti_sub, ti_mul, Int32.reduceToInt] at *; omega))⟩

set_option maxHeartbeats 4000000 in
set_option maxRecDepth 100000 in
theorem s_X12_fillEnds {N : Nat} (hN : 1048576 ≤ N) {x1 : Int32} {σ0 : zS}  (hR : RF σ0.2.2) (hM : MW (σ0.1 219) 0) : Ok (f_X12_fillEnds N 218 x1 σ0) (fun r => Tr [238] σ0 r.2 ∧ (True)) := by
  have hT : Tr [238] σ0 σ0 := Tr.rf
  have hn := hM.1
  have he : 0 ≤ (σ0.1 219 2).toInt ∧ (σ0.1 219 2).toInt ≤ 10 := hM.2.1
  have qm := mny_b hn.1 hn.2
  rw [f_X12_fillEnds.eq_1]
  refine ok_lp (fun t : Int32 × zS => Tr [238] σ0 (t.2) ∧ (0 ≤ (t.1).toInt)) (fun t : Int32 × zS => ((8 : Int32).toInt - (t.1).toInt).toNat) (fun again1 t hI ih2_1 => ?_) N _ (show Tr [238] σ0 σ0 ∧ (0 ≤ (0 : Int32).toInt) from ⟨hT, (by first | omega | decide | (simp only [Int32.le_iff_toInt_le, Int32.lt_iff_toInt_lt, ti_add, ti_sub, ti_mul, Int32.reduceToInt] at *; omega))⟩) (show ((8 : Int32).toInt - (0 : Int32).toInt).toNat < N from (by first | omega | decide | (simp only [Int32.le_iff_toInt_le, Int32.lt_iff_toInt_lt, ti_add, ti_sub, ti_mul, Int32.reduceToInt] at *; omega)))
  obtain ⟨x2_1, σ1⟩ := t
  have hI : Tr [238] σ0 σ1 ∧ (0 ≤ x2_1.toInt) := hI
  obtain ⟨hT, hI1⟩ := hI
  rw [F_X12_fillEnds_2.eq_1]
  refine ok_if (fun hc2 => ?_) (fun hc2 => ?_)
  · refine ok_lp (fun t : Int32 × zS => Tr [238] σ0 (t.2) ∧ (0 ≤ (t.1).toInt)) (fun t : Int32 × zS => (10 - (t.1).toInt).toNat) (fun again3 t hI ih23_3 => ?_) N _ (show Tr [238] σ0 σ1 ∧ (0 ≤ (0 : Int32).toInt) from ⟨hT, (by first | omega | decide | (simp only [Int32.le_iff_toInt_le, Int32.lt_iff_toInt_lt, ti_add, ti_sub, ti_mul, Int32.reduceToInt] at *; omega))⟩) (show (10 - (0 : Int32).toInt).toNat < N from (by first | omega | decide | (simp only [Int32.le_iff_toInt_le, Int32.lt_iff_toInt_lt, ti_add, ti_sub, ti_mul, Int32.reduceToInt] at *; omega)))
    obtain ⟨x2_3, σ3⟩ := t
    have hI : Tr [238] σ0 σ3 ∧ (0 ≤ x2_3.toInt) := hI
    obtain ⟨hT, hI3⟩ := hI
    rw [F_X12_fillEnds_23.eq_1]
    refine ok_gR (v := 219) hT rfl (hR 218 1 rfl) ?_
    refine ok_aIc (j := 2) hT rfl (by decide) rfl (by decide) (by decide) ?_
    refine ok_if (fun hc6 => ?_) (fun hc6 => ?_)
    · exact ok_some ⟨hT, trivial⟩
    · refine ok_gR (v := 238) hT rfl (hR 218 34 rfl) ?_
      refine ok_gC rfl ?_
      refine ok_zbT (Q := fun V σ => 0 ≤ V.toInt ∧ V.toInt ≤ 7) hT (s_X12_one hN (hR.tr hT) (by first | exact hM | (rw [hT.2 219 (by decide)]; exact hM)) (by first | omega | decide | (simp only [Int32.le_iff_toInt_le, Int32.lt_iff_toInt_lt, ti_add, ti_sub, ti_mul, Int32.reduceToInt] at *; omega))) (fun _ h9 => absurd h9 List.not_mem_nil) (fun v8 σ9 hOσ9 hT hqv8 => ?_)
      have hqv8 : 0 ≤ v8.toInt ∧ v8.toInt ≤ 7 := hqv8
      refine ok_aIn rfl (by first | omega | decide | (simp only [Int32.le_iff_toInt_le, Int32.lt_iff_toInt_lt, ti_add, ti_sub, ti_mul, Int32.reduceToInt] at *; omega)) (by first | omega | decide | (simp only [Int32.le_iff_toInt_le, Int32.lt_iff_toInt_lt, ti_add, ti_sub, ti_mul, Int32.reduceToInt] at *; omega)) (fun v10 ev10 => ?_)
      refine ok_s14 hT rfl (by decide) (by first | omega | decide | (simp only [Int32.le_iff_toInt_le, Int32.lt_iff_toInt_lt, ti_add, ti_sub, ti_mul, Int32.reduceToInt] at *; omega)) (by first | omega | decide | (simp only [Int32.le_iff_toInt_le, Int32.lt_iff_toInt_lt, ti_add, ti_sub, ti_mul, Int32.reduceToInt] at *; omega)) (fun σ11 eσ11 hOσ11 hT => ?_)
      refine ok_gR (v := 238) hT rfl (hR 218 34 rfl) ?_
      refine ok_gC rfl ?_
      refine ok_zbT (Q := fun V σ => 0 ≤ V.toInt ∧ V.toInt ≤ 7) hT (s_X12_other hN (hR.tr hT) (by first | exact hM | (rw [hT.2 219 (by decide)]; exact hM)) (by first | omega | decide | (simp only [Int32.le_iff_toInt_le, Int32.lt_iff_toInt_lt, ti_add, ti_sub, ti_mul, Int32.reduceToInt] at *; omega))) (fun _ h9 => absurd h9 List.not_mem_nil) (fun v13 σ14 hOσ14 hT hqv13 => ?_)
      have hqv13 : 0 ≤ v13.toInt ∧ v13.toInt ≤ 7 := hqv13
      refine ok_aIn rfl (by first | omega | decide | (simp only [Int32.le_iff_toInt_le, Int32.lt_iff_toInt_lt, ti_add, ti_sub, ti_mul, Int32.reduceToInt] at *; omega)) (by first | omega | decide | (simp only [Int32.le_iff_toInt_le, Int32.lt_iff_toInt_lt, ti_add, ti_sub, ti_mul, Int32.reduceToInt] at *; omega)) (fun v15 ev15 => ?_)
      refine ok_s14 hT rfl (by decide) (by first | omega | decide | (simp only [Int32.le_iff_toInt_le, Int32.lt_iff_toInt_lt, ti_add, ti_sub, ti_mul, Int32.reduceToInt] at *; omega)) (by first | omega | decide | (simp only [Int32.le_iff_toInt_le, Int32.lt_iff_toInt_lt, ti_add, ti_sub, ti_mul, Int32.reduceToInt] at *; omega)) (fun σ16 eσ16 hOσ16 hT => ?_)
      exact ih23_3 (x2_3 + 1, σ16) (show Tr [238] σ0 σ16 ∧ (0 ≤ (x2_3 + 1).toInt) from ⟨hT, (by first | omega | decide | (simp only [Int32.le_iff_toInt_le, Int32.lt_iff_toInt_lt, ti_add, ti_sub, ti_mul, Int32.reduceToInt] at *; omega))⟩) (show (10 - (x2_3 + 1).toInt).toNat < (10 - x2_3.toInt).toNat from (by first | omega | decide | (simp only [Int32.le_iff_toInt_le, Int32.lt_iff_toInt_lt, ti_add, ti_sub, ti_mul, Int32.reduceToInt] at *; omega)))
  · refine ok_gR (v := 238) hT rfl (hR 218 34 rfl) ?_
    refine ok_s14 hT rfl (by decide) (by first | omega | decide | (simp only [Int32.le_iff_toInt_le, Int32.lt_iff_toInt_lt, ti_add, ti_sub, ti_mul, Int32.reduceToInt] at *; omega)) (by first | omega | decide | (simp only [Int32.le_iff_toInt_le, Int32.lt_iff_toInt_lt, ti_add, ti_sub, ti_mul, Int32.reduceToInt] at *; omega)) (fun σ18 eσ18 hOσ18 hT => ?_)
    exact ih2_1 (x2_1 + 1, σ18) (show Tr [238] σ0 σ18 ∧ (0 ≤ (x2_1 + 1).toInt) from ⟨hT, (by first | omega | decide | (simp only [Int32.le_iff_toInt_le, Int32.lt_iff_toInt_lt, ti_add, ti_sub, ti_mul, Int32.reduceToInt] at *; omega))⟩) (show ((8 : Int32).toInt - (x2_1 + 1).toInt).toNat < ((8 : Int32).toInt - x2_1.toInt).toNat from (by first | omega | decide | (simp only [Int32.le_iff_toInt_le, Int32.lt_iff_toInt_lt, ti_add, ti_sub, ti_mul, Int32.reduceToInt] at *; omega)))

set_option maxHeartbeats 4000000 in
set_option maxRecDepth 100000 in
theorem s_X12_hangs {N : Nat} (hN : 1048576 ≤ N) {x1 : Int32} {x2 : Int32} {σ0 : zS}  (hR : RF σ0.2.2) (hM : MW (σ0.1 219) 0) : Ok (f_X12_hangs N 218 x1 x2 σ0) (fun r => Tr [] σ0 r.2 ∧ (True)) := by
  have hT : Tr [] σ0 σ0 := Tr.rf
  have hn := hM.1
  have he : 0 ≤ (σ0.1 219 2).toInt ∧ (σ0.1 219 2).toInt ≤ 10 := hM.2.1
  have qm := mny_b hn.1 hn.2
  rw [f_X12_hangs.eq_1]
  refine ok_lp (fun t : Int32 × Int32 × zS => Tr [] σ0 (t.2.2) ∧ (0 ≤ (t.2.1).toInt)) (fun t : Int32 × Int32 × zS => (8 - (t.2.1).toInt).toNat) (fun again1 t hI ih7_1 => ?_) N _ (show Tr [] σ0 σ0 ∧ (0 ≤ (0 : Int32).toInt) from ⟨hT, (by first | omega | decide | (simp only [Int32.le_iff_toInt_le, Int32.lt_iff_toInt_lt, ti_add, ti_sub, ti_mul, Int32.reduceToInt] at *; omega))⟩) (show (8 - (0 : Int32).toInt).toNat < N from (by first | omega | decide | (simp only [Int32.le_iff_toInt_le, Int32.lt_iff_toInt_lt, ti_add, ti_sub, ti_mul, Int32.reduceToInt] at *; omega)))
  obtain ⟨x3_1, x4_1, σ1⟩ := t
  have hI : Tr [] σ0 σ1 ∧ (0 ≤ x4_1.toInt) := hI
  obtain ⟨hT, hI1⟩ := hI
  rw [F_X12_hangs_7.eq_1]
  refine ok_if (fun hc2 => ?_) (fun hc2 => ?_)
  · exact ok_some ⟨hT, trivial⟩
  · refine ok_lp (fun t : Int32 × Int32 × zS => Tr [] σ0 (t.2.2) ∧ (0 ≤ (t.2.1).toInt)) (fun t : Int32 × Int32 × zS => (10 - (t.2.1).toInt).toNat) (fun again3 t hI ih17_3 => ?_) N _ (show Tr [] σ0 σ1 ∧ (0 ≤ (0 : Int32).toInt) from ⟨hT, (by first | omega | decide | (simp only [Int32.le_iff_toInt_le, Int32.lt_iff_toInt_lt, ti_add, ti_sub, ti_mul, Int32.reduceToInt] at *; omega))⟩) (show (10 - (0 : Int32).toInt).toNat < N from (by first | omega | decide | (simp only [Int32.le_iff_toInt_le, Int32.lt_iff_toInt_lt, ti_add, ti_sub, ti_mul, Int32.reduceToInt] at *; omega)))
    obtain ⟨x3_3, x5_3, σ3⟩ := t
    have hI : Tr [] σ0 σ3 ∧ (0 ≤ x5_3.toInt) := hI
    obtain ⟨hT, hI3⟩ := hI
    rw [F_X12_hangs_17.eq_1]
    refine ok_gR (v := 219) hT rfl (hR 218 1 rfl) ?_
    refine ok_aIc (j := 2) hT rfl (by decide) rfl (by decide) (by decide) ?_
    refine ok_if (fun hc6 => ?_) (fun hc6 => ?_)
    · exact ih7_1 (x3_3, x4_1 + 1, σ3) (show Tr [] σ0 σ3 ∧ (0 ≤ (x4_1 + 1).toInt) from ⟨hT, (by first | omega | decide | (simp only [Int32.le_iff_toInt_le, Int32.lt_iff_toInt_lt, ti_add, ti_sub, ti_mul, Int32.reduceToInt] at *; omega))⟩) (show (8 - (x4_1 + 1).toInt).toNat < (8 - x4_1.toInt).toNat from (by first | omega | decide | (simp only [Int32.le_iff_toInt_le, Int32.lt_iff_toInt_lt, ti_add, ti_sub, ti_mul, Int32.reduceToInt] at *; omega)))
    · refine ok_if (fun hc7 => ?_) (fun hc7 => ?_)
      · refine ok_gC rfl ?_
        refine ok_zbT (Q := fun V σ => 0 ≤ V.toInt ∧ V.toInt ≤ 7) hT (s_X12_one hN (hR.tr hT) (by first | exact hM | (rw [hT.2 219 (by decide)]; exact hM)) (by first | omega | decide | (simp only [Int32.le_iff_toInt_le, Int32.lt_iff_toInt_lt, ti_add, ti_sub, ti_mul, Int32.reduceToInt] at *; omega))) (fun _ h9 => absurd h9 List.not_mem_nil) (fun v8 σ9 hOσ9 hT hqv8 => ?_)
        have hqv8 : 0 ≤ v8.toInt ∧ v8.toInt ≤ 7 := hqv8
        refine ok_gC rfl ?_
        refine ok_zbT (Q := fun V σ => 0 ≤ V.toInt ∧ V.toInt ≤ 7) hT (s_X12_other hN (hR.tr hT) (by first | exact hM | (rw [hT.2 219 (by decide)]; exact hM)) (by first | omega | decide | (simp only [Int32.le_iff_toInt_le, Int32.lt_iff_toInt_lt, ti_add, ti_sub, ti_mul, Int32.reduceToInt] at *; omega))) (fun _ h9 => absurd h9 List.not_mem_nil) (fun v10 σ11 hOσ11 hT hqv10 => ?_)
        have hqv10 : 0 ≤ v10.toInt ∧ v10.toInt ≤ 7 := hqv10
        refine ok_if (fun hc12 => ?_) (fun hc12 => ?_)
        · refine ok_gC rfl ?_
          refine ok_zbT (Q := fun V σ => 0 ≤ V.toInt ∧ V.toInt ≤ 7) hT (s_X12_one hN (hR.tr hT) (by first | exact hM | (rw [hT.2 219 (by decide)]; exact hM)) (by first | omega | decide | (simp only [Int32.le_iff_toInt_le, Int32.lt_iff_toInt_lt, ti_add, ti_sub, ti_mul, Int32.reduceToInt] at *; omega))) (fun _ h9 => absurd h9 List.not_mem_nil) (fun v13 σ14 hOσ14 hT hqv13 => ?_)
          have hqv13 : 0 ≤ v13.toInt ∧ v13.toInt ≤ 7 := hqv13
          refine ok_gC rfl ?_
          refine ok_zbT (Q := fun V σ => 0 ≤ V.toInt ∧ V.toInt ≤ 7) hT (s_X12_other hN (hR.tr hT) (by first | exact hM | (rw [hT.2 219 (by decide)]; exact hM)) (by first | omega | decide | (simp only [Int32.le_iff_toInt_le, Int32.lt_iff_toInt_lt, ti_add, ti_sub, ti_mul, Int32.reduceToInt] at *; omega))) (fun _ h9 => absurd h9 List.not_mem_nil) (fun v15 σ16 hOσ16 hT hqv15 => ?_)
          have hqv15 : 0 ≤ v15.toInt ∧ v15.toInt ≤ 7 := hqv15
          exact ih17_3 (x3_3 ||| (((1 : Int32) <<< (v13 &&& 31)) ||| ((1 : Int32) <<< (v15 &&& 31))), x5_3 + 1, σ16) (show Tr [] σ0 σ16 ∧ (0 ≤ (x5_3 + 1).toInt) from ⟨hT, (by first | omega | decide | (simp only [Int32.le_iff_toInt_le, Int32.lt_iff_toInt_lt, ti_add, ti_sub, ti_mul, Int32.reduceToInt] at *; omega))⟩) (show (10 - (x5_3 + 1).toInt).toNat < (10 - x5_3.toInt).toNat from (by first | omega | decide | (simp only [Int32.le_iff_toInt_le, Int32.lt_iff_toInt_lt, ti_add, ti_sub, ti_mul, Int32.reduceToInt] at *; omega)))
        · exact ih17_3 (x3_3, x5_3 + 1, σ11) (show Tr [] σ0 σ11 ∧ (0 ≤ (x5_3 + 1).toInt) from ⟨hT, (by first | omega | decide | (simp only [Int32.le_iff_toInt_le, Int32.lt_iff_toInt_lt, ti_add, ti_sub, ti_mul, Int32.reduceToInt] at *; omega))⟩) (show (10 - (x5_3 + 1).toInt).toNat < (10 - x5_3.toInt).toNat from (by first | omega | decide | (simp only [Int32.le_iff_toInt_le, Int32.lt_iff_toInt_lt, ti_add, ti_sub, ti_mul, Int32.reduceToInt] at *; omega)))
      · exact ih17_3 (x3_3, x5_3 + 1, σ3) (show Tr [] σ0 σ3 ∧ (0 ≤ (x5_3 + 1).toInt) from ⟨hT, (by first | omega | decide | (simp only [Int32.le_iff_toInt_le, Int32.lt_iff_toInt_lt, ti_add, ti_sub, ti_mul, Int32.reduceToInt] at *; omega))⟩) (show (10 - (x5_3 + 1).toInt).toNat < (10 - x5_3.toInt).toNat from (by first | omega | decide | (simp only [Int32.le_iff_toInt_le, Int32.lt_iff_toInt_lt, ti_add, ti_sub, ti_mul, Int32.reduceToInt] at *; omega)))

set_option maxHeartbeats 4000000 in
set_option maxRecDepth 100000 in
theorem s_X12_isCrossing {N : Nat} (hN : 1048576 ≤ N) {x1 : Int32} {σ0 : zS}  (hR : RF σ0.2.2) (hM : MW (σ0.1 219) 0) : Ok (f_X12_isCrossing N 218 x1 σ0) (fun r => Tr [] σ0 r.2 ∧ ((r.1 = 0 ∨ r.1 = 1) ∧ (¬ r.1 = 0 → 0 ≤ x1.toInt ∧ x1.toInt ≤ 7))) := by
  have hT : Tr [] σ0 σ0 := Tr.rf
  have hn := hM.1
  have he : 0 ≤ (σ0.1 219 2).toInt ∧ (σ0.1 219 2).toInt ≤ 10 := hM.2.1
  have qm := mny_b hn.1 hn.2
  rw [f_X12_isCrossing.eq_1]
  refine ok_gC rfl ?_
  refine ok_zbT (Q := fun V σ => (V = 0 ∨ V = 1) ∧ (¬ V = 0 → 0 < (σ0.1 219 0).toInt) ∧ (V = 0 → (σ0.1 219 0).toInt ≤ 0)) hT (s_X12_isWorld hN (hR.tr hT) (by first | exact hM | (rw [hT.2 219 (by decide)]; exact hM))) (fun _ h9 => absurd h9 List.not_mem_nil) (fun v1 σ2 hOσ2 hT hqv1 => ?_)
  have hqv1 : (v1 = 0 ∨ v1 = 1) ∧ (¬ v1 = 0 → 0 < (σ0.1 219 0).toInt) ∧ (v1 = 0 → (σ0.1 219 0).toInt ≤ 0) := hqv1
  refine ok_if (fun hc3 => ?_) (fun hc3 => ?_)
  · have qhc3 := hqv1.2.2 hc3
    exact ok_rZ (Or.inl rfl) ⟨hT, (show ((0 : Int32) = 0 ∨ (0 : Int32) = 1) ∧ (¬ (0 : Int32) = 0 → 0 ≤ x1.toInt ∧ x1.toInt ≤ 7) from by first | exact ⟨Or.inl rfl, fun h9 => absurd rfl h9⟩ | exact ⟨Or.inr rfl, fun _ => by first | omega | (simp only [Int32.le_iff_toInt_le, Int32.lt_iff_toInt_lt, ti_add, ti_sub, ti_mul, Int32.reduceToInt] at *; omega)⟩ | exact ⟨hqv1.1, fun h9 => by have q9 := hqv1.2 h9; first | omega | (simp only [Int32.le_iff_toInt_le, Int32.lt_iff_toInt_lt, ti_add, ti_sub, ti_mul, Int32.reduceToInt] at *; omega)⟩)⟩
  · have qhc3 := hqv1.2.1 hc3
    refine ok_zbT (Q := fun V σ => (V = 0 ∨ V = 1) ∧ (¬ V = 0 → (0 : Int64).toInt ≤ (Int32.toInt64 x1).toInt ∧ (Int32.toInt64 x1).toInt ≤ (7 : Int64).toInt)) hT (s_X12_in hN (hR.tr hT) ) (fun _ h9 => absurd h9 List.not_mem_nil) (fun v4 σ5 hOσ5 hT hqv4 => ?_)
    have hqv4 : (v4 = 0 ∨ v4 = 1) ∧ (¬ v4 = 0 → (0 : Int64).toInt ≤ (Int32.toInt64 x1).toInt ∧ (Int32.toInt64 x1).toInt ≤ (7 : Int64).toInt) := hqv4
    simp only [i64_of, Int64.reduceToInt] at hqv4
    refine ok_if (fun hc6 => ?_) (fun hc6 => ?_)
    · exact ok_rZ (Or.inl rfl) ⟨hT, (show ((0 : Int32) = 0 ∨ (0 : Int32) = 1) ∧ (¬ (0 : Int32) = 0 → 0 ≤ x1.toInt ∧ x1.toInt ≤ 7) from by first | exact ⟨Or.inl rfl, fun h9 => absurd rfl h9⟩ | exact ⟨Or.inr rfl, fun _ => by first | omega | (simp only [Int32.le_iff_toInt_le, Int32.lt_iff_toInt_lt, ti_add, ti_sub, ti_mul, Int32.reduceToInt] at *; omega)⟩ | exact ⟨hqv4.1, fun h9 => by have q9 := hqv4.2 h9; first | omega | (simp only [Int32.le_iff_toInt_le, Int32.lt_iff_toInt_lt, ti_add, ti_sub, ti_mul, Int32.reduceToInt] at *; omega)⟩)⟩
    · have qhc6 := hqv4.2 hc6
      exact ok_rZ (Or.inr rfl) ⟨hT, (show ((1 : Int32) = 0 ∨ (1 : Int32) = 1) ∧ (¬ (1 : Int32) = 0 → 0 ≤ x1.toInt ∧ x1.toInt ≤ 7) from by first | exact ⟨Or.inl rfl, fun h9 => absurd rfl h9⟩ | exact ⟨Or.inr rfl, fun _ => by first | omega | (simp only [Int32.le_iff_toInt_le, Int32.lt_iff_toInt_lt, ti_add, ti_sub, ti_mul, Int32.reduceToInt] at *; omega)⟩ | exact ⟨hqv4.1, fun h9 => by have q9 := hqv4.2 h9; first | omega | (simp only [Int32.le_iff_toInt_le, Int32.lt_iff_toInt_lt, ti_add, ti_sub, ti_mul, Int32.reduceToInt] at *; omega)⟩)⟩

set_option maxHeartbeats 4000000 in
set_option maxRecDepth 100000 in
theorem s_X12_isWay {N : Nat} (hN : 1048576 ≤ N) {x1 : Int32} {x2 : Int32} {x3 : Int32} {σ0 : zS}  (hR : RF σ0.2.2) (hM : MW (σ0.1 219) 0) (h2 : 0 ≤ x2.toInt ∧ x2.toInt ≤ 7) (h3 : 0 ≤ x3.toInt ∧ x3.toInt ≤ 7) : Ok (f_X12_isWay N 218 x1 x2 x3 σ0) (fun r => Tr [238] σ0 r.2 ∧ (r.1 = 0 ∨ r.1 = 1)) := by
  have hT : Tr [238] σ0 σ0 := Tr.rf
  have hn := hM.1
  have he : 0 ≤ (σ0.1 219 2).toInt ∧ (σ0.1 219 2).toInt ≤ 10 := hM.2.1
  have qm := mny_b hn.1 hn.2
  rw [f_X12_isWay.eq_1]
  refine ok_if (fun hc1 => ?_) (fun hc1 => ?_)
  · refine ok_if (fun hc2 => ?_) (fun hc2 => ?_)
    · exact ok_rZ (Or.inr rfl) ⟨hT, (show (1 : Int32) = 0 ∨ (1 : Int32) = 1 from by first | exact Or.inl rfl | exact Or.inr rfl)⟩
    · exact ok_rZ (Or.inl rfl) ⟨hT, (show (0 : Int32) = 0 ∨ (0 : Int32) = 1 from by first | exact Or.inl rfl | exact Or.inr rfl)⟩
  · refine ok_gC rfl ?_
    refine ok_zbT (Q := fun V σ => True) hT (s_X12_fillEnds hN (hR.tr hT) (by first | exact hM | (rw [hT.2 219 (by decide)]; exact hM))) (by decide) (fun v3 σ4 hOσ4 hT hqv3 => ?_)
    refine ok_gR (v := 238) hT rfl (hR 218 34 rfl) ?_
    refine ok_aIn rfl (by first | omega | decide | (simp only [Int32.le_iff_toInt_le, Int32.lt_iff_toInt_lt, ti_add, ti_sub, ti_mul, Int32.reduceToInt] at *; omega)) (by first | omega | decide | (simp only [Int32.le_iff_toInt_le, Int32.lt_iff_toInt_lt, ti_add, ti_sub, ti_mul, Int32.reduceToInt] at *; omega)) (fun v6 ev6 => ?_)
    refine ok_if (fun hc7 => ?_) (fun hc7 => ?_)
    · refine ok_gR (v := 238) hT rfl (hR 218 34 rfl) ?_
      refine ok_aIn rfl (by first | omega | decide | (simp only [Int32.le_iff_toInt_le, Int32.lt_iff_toInt_lt, ti_add, ti_sub, ti_mul, Int32.reduceToInt] at *; omega)) (by first | omega | decide | (simp only [Int32.le_iff_toInt_le, Int32.lt_iff_toInt_lt, ti_add, ti_sub, ti_mul, Int32.reduceToInt] at *; omega)) (fun v9 ev9 => ?_)
      refine ok_if (fun hc10 => ?_) (fun hc10 => ?_)
      · refine ok_gC rfl ?_
        refine ok_zbT (Q := fun V σ => True) hT (s_X12_hangs hN (hR.tr hT) (by first | exact hM | (rw [hT.2 219 (by decide)]; exact hM))) (fun _ h9 => absurd h9 List.not_mem_nil) (fun v11 σ12 hOσ12 hT hqv11 => ?_)
        refine ok_lp (fun t : Int32 × zS => Tr [238] σ0 (t.2) ∧ (0 ≤ (t.1).toInt)) (fun t : Int32 × zS => ((8 : Int32).toInt - (t.1).toInt).toNat) (fun again13 t hI ih53_13 => ?_) N _ (show Tr [238] σ0 σ12 ∧ (0 ≤ (0 : Int32).toInt) from ⟨hT, (by first | omega | decide | (simp only [Int32.le_iff_toInt_le, Int32.lt_iff_toInt_lt, ti_add, ti_sub, ti_mul, Int32.reduceToInt] at *; omega))⟩) (show ((8 : Int32).toInt - (0 : Int32).toInt).toNat < N from (by first | omega | decide | (simp only [Int32.le_iff_toInt_le, Int32.lt_iff_toInt_lt, ti_add, ti_sub, ti_mul, Int32.reduceToInt] at *; omega)))
        obtain ⟨x5_13, σ13⟩ := t
        have hI : Tr [238] σ0 σ13 ∧ (0 ≤ x5_13.toInt) := hI
        obtain ⟨hT, hI13⟩ := hI
        rw [F_X12_isWay_53.eq_1]
        refine ok_if (fun hc14 => ?_) (fun hc14 => ?_)
        · exact ok_rZ (Or.inr rfl) ⟨hT, (show (1 : Int32) = 0 ∨ (1 : Int32) = 1 from by first | exact Or.inl rfl | exact Or.inr rfl)⟩
        · refine ok_if (fun hc15 => ?_) (fun hc15 => ?_)
          · refine ok_gR (v := 238) hT rfl (hR 218 34 rfl) ?_
            refine ok_aIn rfl (by first | omega | decide | (simp only [Int32.le_iff_toInt_le, Int32.lt_iff_toInt_lt, ti_add, ti_sub, ti_mul, Int32.reduceToInt] at *; omega)) (by first | omega | decide | (simp only [Int32.le_iff_toInt_le, Int32.lt_iff_toInt_lt, ti_add, ti_sub, ti_mul, Int32.reduceToInt] at *; omega)) (fun v17 ev17 => ?_)
            refine ok_if (fun hc18 => ?_) (fun hc18 => ?_)
            · exact ok_rZ (Or.inl rfl) ⟨hT, (show (0 : Int32) = 0 ∨ (0 : Int32) = 1 from by first | exact Or.inl rfl | exact Or.inr rfl)⟩
            · rw [J_X12_isWay_80.eq_1]
              refine ok_if (fun hc19 => ?_) (fun hc19 => ?_)
              · exact ih53_13 (x5_13 + 1, σ13) (show Tr [238] σ0 σ13 ∧ (0 ≤ (x5_13 + 1).toInt) from ⟨hT, (by first | omega | decide | (simp only [Int32.le_iff_toInt_le, Int32.lt_iff_toInt_lt, ti_add, ti_sub, ti_mul, Int32.reduceToInt] at *; omega))⟩) (show ((8 : Int32).toInt - (x5_13 + 1).toInt).toNat < ((8 : Int32).toInt - x5_13.toInt).toNat from (by first | omega | decide | (simp only [Int32.le_iff_toInt_le, Int32.lt_iff_toInt_lt, ti_add, ti_sub, ti_mul, Int32.reduceToInt] at *; omega)))
              · refine ok_if (fun hc20 => ?_) (fun hc20 => ?_)
                · exact ih53_13 (x5_13 + 1, σ13) (show Tr [238] σ0 σ13 ∧ (0 ≤ (x5_13 + 1).toInt) from ⟨hT, (by first | omega | decide | (simp only [Int32.le_iff_toInt_le, Int32.lt_iff_toInt_lt, ti_add, ti_sub, ti_mul, Int32.reduceToInt] at *; omega))⟩) (show ((8 : Int32).toInt - (x5_13 + 1).toInt).toNat < ((8 : Int32).toInt - x5_13.toInt).toNat from (by first | omega | decide | (simp only [Int32.le_iff_toInt_le, Int32.lt_iff_toInt_lt, ti_add, ti_sub, ti_mul, Int32.reduceToInt] at *; omega)))
                · refine ok_gR (v := 238) hT rfl (hR 218 34 rfl) ?_
                  refine ok_aIn rfl (by first | omega | decide | (simp only [Int32.le_iff_toInt_le, Int32.lt_iff_toInt_lt, ti_add, ti_sub, ti_mul, Int32.reduceToInt] at *; omega)) (by first | omega | decide | (simp only [Int32.le_iff_toInt_le, Int32.lt_iff_toInt_lt, ti_add, ti_sub, ti_mul, Int32.reduceToInt] at *; omega)) (fun v22 ev22 => ?_)
                  refine ok_if (fun hc23 => ?_) (fun hc23 => ?_)
                  · exact ih53_13 (x5_13 + 1, σ13) (show Tr [238] σ0 σ13 ∧ (0 ≤ (x5_13 + 1).toInt) from ⟨hT, (by first | omega | decide | (simp only [Int32.le_iff_toInt_le, Int32.lt_iff_toInt_lt, ti_add, ti_sub, ti_mul, Int32.reduceToInt] at *; omega))⟩) (show ((8 : Int32).toInt - (x5_13 + 1).toInt).toNat < ((8 : Int32).toInt - x5_13.toInt).toNat from (by first | omega | decide | (simp only [Int32.le_iff_toInt_le, Int32.lt_iff_toInt_lt, ti_add, ti_sub, ti_mul, Int32.reduceToInt] at *; omega)))
                  · refine ok_gR (v := 238) hT rfl (hR 218 34 rfl) ?_
                    refine ok_aIn rfl (by first | omega | decide | (simp only [Int32.le_iff_toInt_le, Int32.lt_iff_toInt_lt, ti_add, ti_sub, ti_mul, Int32.reduceToInt] at *; omega)) (by first | omega | decide | (simp only [Int32.le_iff_toInt_le, Int32.lt_iff_toInt_lt, ti_add, ti_sub, ti_mul, Int32.reduceToInt] at *; omega)) (fun v25 ev25 => ?_)
                    refine ok_if (fun hc26 => ?_) (fun hc26 => ?_)
                    · exact ih53_13 (x5_13 + 1, σ13) (show Tr [238] σ0 σ13 ∧ (0 ≤ (x5_13 + 1).toInt) from ⟨hT, (by first | omega | decide | (simp only [Int32.le_iff_toInt_le, Int32.lt_iff_toInt_lt, ti_add, ti_sub, ti_mul, Int32.reduceToInt] at *; omega))⟩) (show ((8 : Int32).toInt - (x5_13 + 1).toInt).toNat < ((8 : Int32).toInt - x5_13.toInt).toNat from (by first | omega | decide | (simp only [Int32.le_iff_toInt_le, Int32.lt_iff_toInt_lt, ti_add, ti_sub, ti_mul, Int32.reduceToInt] at *; omega)))
                    · exact ok_rZ (Or.inl rfl) ⟨hT, (show (0 : Int32) = 0 ∨ (0 : Int32) = 1 from by first | exact Or.inl rfl | exact Or.inr rfl)⟩
          · rw [J_X12_isWay_80.eq_1]
            refine ok_if (fun hc27 => ?_) (fun hc27 => ?_)
            · exact ih53_13 (x5_13 + 1, σ13) (show Tr [238] σ0 σ13 ∧ (0 ≤ (x5_13 + 1).toInt) from ⟨hT, (by first | omega | decide | (simp only [Int32.le_iff_toInt_le, Int32.lt_iff_toInt_lt, ti_add, ti_sub, ti_mul, Int32.reduceToInt] at *; omega))⟩) (show ((8 : Int32).toInt - (x5_13 + 1).toInt).toNat < ((8 : Int32).toInt - x5_13.toInt).toNat from (by first | omega | decide | (simp only [Int32.le_iff_toInt_le, Int32.lt_iff_toInt_lt, ti_add, ti_sub, ti_mul, Int32.reduceToInt] at *; omega)))
            · refine ok_if (fun hc28 => ?_) (fun hc28 => ?_)
              · exact ih53_13 (x5_13 + 1, σ13) (show Tr [238] σ0 σ13 ∧ (0 ≤ (x5_13 + 1).toInt) from ⟨hT, (by first | omega | decide | (simp only [Int32.le_iff_toInt_le, Int32.lt_iff_toInt_lt, ti_add, ti_sub, ti_mul, Int32.reduceToInt] at *; omega))⟩) (show ((8 : Int32).toInt - (x5_13 + 1).toInt).toNat < ((8 : Int32).toInt - x5_13.toInt).toNat from (by first | omega | decide | (simp only [Int32.le_iff_toInt_le, Int32.lt_iff_toInt_lt, ti_add, ti_sub, ti_mul, Int32.reduceToInt] at *; omega)))
              · refine ok_gR (v := 238) hT rfl (hR 218 34 rfl) ?_
                refine ok_aIn rfl (by first | omega | decide | (simp only [Int32.le_iff_toInt_le, Int32.lt_iff_toInt_lt, ti_add, ti_sub, ti_mul, Int32.reduceToInt] at *; omega)) (by first | omega | decide | (simp only [Int32.le_iff_toInt_le, Int32.lt_iff_toInt_lt, ti_add, ti_sub, ti_mul, Int32.reduceToInt] at *; omega)) (fun v30 ev30 => ?_)
                refine ok_if (fun hc31 => ?_) (fun hc31 => ?_)
                · exact ih53_13 (x5_13 + 1, σ13) (show Tr [238] σ0 σ13 ∧ (0 ≤ (x5_13 + 1).toInt) from ⟨hT, (by first | omega | decide | (simp only [Int32.le_iff_toInt_le, Int32.lt_iff_toInt_lt, ti_add, ti_sub, ti_mul, Int32.reduceToInt] at *; omega))⟩) (show ((8 : Int32).toInt - (x5_13 + 1).toInt).toNat < ((8 : Int32).toInt - x5_13.toInt).toNat from (by first | omega | decide | (simp only [Int32.le_iff_toInt_le, Int32.lt_iff_toInt_lt, ti_add, ti_sub, ti_mul, Int32.reduceToInt] at *; omega)))
                · refine ok_gR (v := 238) hT rfl (hR 218 34 rfl) ?_
                  refine ok_aIn rfl (by first | omega | decide | (simp only [Int32.le_iff_toInt_le, Int32.lt_iff_toInt_lt, ti_add, ti_sub, ti_mul, Int32.reduceToInt] at *; omega)) (by first | omega | decide | (simp only [Int32.le_iff_toInt_le, Int32.lt_iff_toInt_lt, ti_add, ti_sub, ti_mul, Int32.reduceToInt] at *; omega)) (fun v33 ev33 => ?_)
                  refine ok_if (fun hc34 => ?_) (fun hc34 => ?_)
                  · exact ih53_13 (x5_13 + 1, σ13) (show Tr [238] σ0 σ13 ∧ (0 ≤ (x5_13 + 1).toInt) from ⟨hT, (by first | omega | decide | (simp only [Int32.le_iff_toInt_le, Int32.lt_iff_toInt_lt, ti_add, ti_sub, ti_mul, Int32.reduceToInt] at *; omega))⟩) (show ((8 : Int32).toInt - (x5_13 + 1).toInt).toNat < ((8 : Int32).toInt - x5_13.toInt).toNat from (by first | omega | decide | (simp only [Int32.le_iff_toInt_le, Int32.lt_iff_toInt_lt, ti_add, ti_sub, ti_mul, Int32.reduceToInt] at *; omega)))
                  · exact ok_rZ (Or.inl rfl) ⟨hT, (show (0 : Int32) = 0 ∨ (0 : Int32) = 1 from by first | exact Or.inl rfl | exact Or.inr rfl)⟩
      · exact ok_rZ (Or.inl rfl) ⟨hT, (show (0 : Int32) = 0 ∨ (0 : Int32) = 1 from by first | exact Or.inl rfl | exact Or.inr rfl)⟩
    · exact ok_rZ (Or.inl rfl) ⟨hT, (show (0 : Int32) = 0 ∨ (0 : Int32) = 1 from by first | exact Or.inl rfl | exact Or.inr rfl)⟩

set_option maxHeartbeats 4000000 in
set_option maxRecDepth 100000 in
theorem s_X12_fillWays {N : Nat} (hN : 1048576 ≤ N) {x1 : Int32} {x2 : Int32} {σ0 : zS}  (hR : RF σ0.2.2) (hM : MW (σ0.1 219) 0) (hB : ZB σ0.1) (h1 : 0 ≤ x1.toInt ∧ x1.toInt ≤ 7) (h2 : 0 ≤ x2.toInt ∧ x2.toInt ≤ 7) : Ok (f_X12_fillWays N 218 x1 x2 σ0) (fun r => Tr [227, 238] σ0 r.2 ∧ (ZB r.2.1)) := by
  have hT : Tr [227, 238] σ0 σ0 := Tr.rf
  have hn := hM.1
  have he : 0 ≤ (σ0.1 219 2).toInt ∧ (σ0.1 219 2).toInt ≤ 10 := hM.2.1
  have qm := mny_b hn.1 hn.2
  rw [f_X12_fillWays.eq_1]
  refine ok_lp (fun t : Int32 × zS => Tr [227, 238] σ0 (t.2) ∧ (0 ≤ (t.1).toInt) ∧ (ZB (t.2).1)) (fun t : Int32 × zS => ((1024 : Int32).toInt - (t.1).toInt).toNat) (fun again1 t hI ih2_1 => ?_) N _ (show Tr [227, 238] σ0 σ0 ∧ (0 ≤ (0 : Int32).toInt) ∧ (ZB σ0.1) from ⟨hT, (by first | omega | decide | (simp only [Int32.le_iff_toInt_le, Int32.lt_iff_toInt_lt, ti_add, ti_sub, ti_mul, Int32.reduceToInt] at *; omega)), hB⟩) (show ((1024 : Int32).toInt - (0 : Int32).toInt).toNat < N from (by first | omega | decide | (simp only [Int32.le_iff_toInt_le, Int32.lt_iff_toInt_lt, ti_add, ti_sub, ti_mul, Int32.reduceToInt] at *; omega)))
  obtain ⟨x3_1, σ1⟩ := t
  have hI : Tr [227, 238] σ0 σ1 ∧ (0 ≤ x3_1.toInt) ∧ (ZB σ1.1) := hI
  obtain ⟨hT, hI1, hB⟩ := hI
  rw [F_X12_fillWays_2.eq_1]
  refine ok_if (fun hc2 => ?_) (fun hc2 => ?_)
  · exact ok_some ⟨hT, (show ZB σ1.1 from by exact hB)⟩
  · refine ok_gR (v := 227) hT rfl (hR 218 17 rfl) ?_
    refine ok_gR (v := 219) hT rfl (hR 218 1 rfl) ?_
    refine ok_aIc (j := 2) hT rfl (by decide) rfl (by decide) (by decide) ?_
    refine ok_if (fun hc6 => ?_) (fun hc6 => ?_)
    · refine ok_s16 hT rfl (by decide) (by first | omega | decide | (simp only [Int32.le_iff_toInt_le, Int32.lt_iff_toInt_lt, ti_add, ti_sub, ti_mul, Int32.reduceToInt] at *; omega)) (by first | omega | decide | (simp only [Int32.le_iff_toInt_le, Int32.lt_iff_toInt_lt, ti_add, ti_sub, ti_mul, Int32.reduceToInt] at *; omega)) (fun σ7 eσ7 hOσ7 hT => ?_)
      have hB : ZB σ7.1 := by first | exact HQ | exact ZB_s eσ7 hB
      exact ih2_1 (x3_1 + 1, σ7) (show Tr [227, 238] σ0 σ7 ∧ (0 ≤ (x3_1 + 1).toInt) ∧ (ZB σ7.1) from ⟨hT, (by first | omega | decide | (simp only [Int32.le_iff_toInt_le, Int32.lt_iff_toInt_lt, ti_add, ti_sub, ti_mul, Int32.reduceToInt] at *; omega)), hB⟩) (show ((1024 : Int32).toInt - (x3_1 + 1).toInt).toNat < ((1024 : Int32).toInt - x3_1.toInt).toNat from (by first | omega | decide | (simp only [Int32.le_iff_toInt_le, Int32.lt_iff_toInt_lt, ti_add, ti_sub, ti_mul, Int32.reduceToInt] at *; omega)))
    · refine ok_gC rfl ?_
      refine ok_zbT (Q := fun V σ => V = 0 ∨ V = 1) hT (s_X12_isWay hN (hR.tr hT) (by first | exact hM | (rw [hT.2 219 (by decide)]; exact hM)) (by first | omega | decide | (simp only [Int32.le_iff_toInt_le, Int32.lt_iff_toInt_lt, ti_add, ti_sub, ti_mul, Int32.reduceToInt] at *; omega)) (by first | omega | decide | (simp only [Int32.le_iff_toInt_le, Int32.lt_iff_toInt_lt, ti_add, ti_sub, ti_mul, Int32.reduceToInt] at *; omega))) (by decide) (fun v8 σ9 hOσ9 hT hqv8 => ?_)
      have hqv8 : v8 = 0 ∨ v8 = 1 := hqv8
      have hB : ZB σ9.1 := ZB.tr hOσ9 (by decide) hB
      refine ok_if (fun hc10 => ?_) (fun hc10 => ?_)
      · refine ok_s16 hT rfl (by decide) (by first | omega | decide | (simp only [Int32.le_iff_toInt_le, Int32.lt_iff_toInt_lt, ti_add, ti_sub, ti_mul, Int32.reduceToInt] at *; omega)) (by first | omega | decide | (simp only [Int32.le_iff_toInt_le, Int32.lt_iff_toInt_lt, ti_add, ti_sub, ti_mul, Int32.reduceToInt] at *; omega)) (fun σ11 eσ11 hOσ11 hT => ?_)
        have hB : ZB σ11.1 := by first | exact HQ | exact ZB_s eσ11 hB
        exact ih2_1 (x3_1 + 1, σ11) (show Tr [227, 238] σ0 σ11 ∧ (0 ≤ (x3_1 + 1).toInt) ∧ (ZB σ11.1) from ⟨hT, (by first | omega | decide | (simp only [Int32.le_iff_toInt_le, Int32.lt_iff_toInt_lt, ti_add, ti_sub, ti_mul, Int32.reduceToInt] at *; omega)), hB⟩) (show ((1024 : Int32).toInt - (x3_1 + 1).toInt).toNat < ((1024 : Int32).toInt - x3_1.toInt).toNat from (by first | omega | decide | (simp only [Int32.le_iff_toInt_le, Int32.lt_iff_toInt_lt, ti_add, ti_sub, ti_mul, Int32.reduceToInt] at *; omega)))
      · refine ok_s16 hT rfl (by decide) (by first | omega | decide | (simp only [Int32.le_iff_toInt_le, Int32.lt_iff_toInt_lt, ti_add, ti_sub, ti_mul, Int32.reduceToInt] at *; omega)) (by first | omega | decide | (simp only [Int32.le_iff_toInt_le, Int32.lt_iff_toInt_lt, ti_add, ti_sub, ti_mul, Int32.reduceToInt] at *; omega)) (fun σ12 eσ12 hOσ12 hT => ?_)
        have hB : ZB σ12.1 := by first | exact HQ | exact ZB_s eσ12 hB
        exact ih2_1 (x3_1 + 1, σ12) (show Tr [227, 238] σ0 σ12 ∧ (0 ≤ (x3_1 + 1).toInt) ∧ (ZB σ12.1) from ⟨hT, (by first | omega | decide | (simp only [Int32.le_iff_toInt_le, Int32.lt_iff_toInt_lt, ti_add, ti_sub, ti_mul, Int32.reduceToInt] at *; omega)), hB⟩) (show ((1024 : Int32).toInt - (x3_1 + 1).toInt).toNat < ((1024 : Int32).toInt - x3_1.toInt).toNat from (by first | omega | decide | (simp only [Int32.le_iff_toInt_le, Int32.lt_iff_toInt_lt, ti_add, ti_sub, ti_mul, Int32.reduceToInt] at *; omega)))

set_option maxHeartbeats 4000000 in
set_option maxRecDepth 100000 in
theorem s_X12_ways {N : Nat} (hN : 1048576 ≤ N) {x1 : Int32} {x2 : Int32} {x3 : Int32} {σ0 : zS}  (hR : RF σ0.2.2) (hM : MW (σ0.1 219) 0) (hB : ZB σ0.1) : Ok (f_X12_ways N 218 x1 x2 x3 σ0) (fun r => Tr [220, 227, 238] σ0 r.2 ∧ (ZB r.2.1)) := by
  have hT : Tr [220, 227, 238] σ0 σ0 := Tr.rf
  have hn := hM.1
  have he : 0 ≤ (σ0.1 219 2).toInt ∧ (σ0.1 219 2).toInt ≤ 10 := hM.2.1
  have qm := mny_b hn.1 hn.2
  rw [f_X12_ways.eq_1]
  refine ok_gC rfl ?_
  refine ok_zbT (Q := fun V σ => (V = 0 ∨ V = 1) ∧ (¬ V = 0 → 0 ≤ x1.toInt ∧ x1.toInt ≤ 9)) hT (s_X12_isRegister hN (hR.tr hT) (by first | exact hM | (rw [hT.2 219 (by decide)]; exact hM))) (fun _ h9 => absurd h9 List.not_mem_nil) (fun v1 σ2 hOσ2 hT hqv1 => ?_)
  have hqv1 : (v1 = 0 ∨ v1 = 1) ∧ (¬ v1 = 0 → 0 ≤ x1.toInt ∧ x1.toInt ≤ 9) := hqv1
  have hB : ZB σ2.1 := ZB.tr hOσ2 (by decide) hB
  refine ok_if (fun hc3 => ?_) (fun hc3 => ?_)
  · exact ok_some ⟨hT, (show ZB σ2.1 from by exact hB)⟩
  · have qhc3 := hqv1.2 hc3
    refine ok_gC rfl ?_
    refine ok_zbT (Q := fun V σ => (V = 0 ∨ V = 1) ∧ (¬ V = 0 → 0 ≤ x2.toInt ∧ x2.toInt ≤ 7)) hT (s_X12_isCrossing hN (hR.tr hT) (by first | exact hM | (rw [hT.2 219 (by decide)]; exact hM))) (fun _ h9 => absurd h9 List.not_mem_nil) (fun v4 σ5 hOσ5 hT hqv4 => ?_)
    have hqv4 : (v4 = 0 ∨ v4 = 1) ∧ (¬ v4 = 0 → 0 ≤ x2.toInt ∧ x2.toInt ≤ 7) := hqv4
    have hB : ZB σ5.1 := ZB.tr hOσ5 (by decide) hB
    refine ok_if (fun hc6 => ?_) (fun hc6 => ?_)
    · exact ok_some ⟨hT, (show ZB σ5.1 from by exact hB)⟩
    · have qhc6 := hqv4.2 hc6
      refine ok_gC rfl ?_
      refine ok_zbT (Q := fun V σ => (V = 0 ∨ V = 1) ∧ (¬ V = 0 → 0 ≤ x3.toInt ∧ x3.toInt ≤ 7)) hT (s_X12_isCrossing hN (hR.tr hT) (by first | exact hM | (rw [hT.2 219 (by decide)]; exact hM))) (fun _ h9 => absurd h9 List.not_mem_nil) (fun v7 σ8 hOσ8 hT hqv7 => ?_)
      have hqv7 : (v7 = 0 ∨ v7 = 1) ∧ (¬ v7 = 0 → 0 ≤ x3.toInt ∧ x3.toInt ≤ 7) := hqv7
      have hB : ZB σ8.1 := ZB.tr hOσ8 (by decide) hB
      refine ok_if (fun hc9 => ?_) (fun hc9 => ?_)
      · exact ok_some ⟨hT, (show ZB σ8.1 from by exact hB)⟩
      · have qhc9 := hqv7.2 hc9
        refine ok_gC rfl ?_
        refine ok_zbT (Q := fun V σ => ZB σ.1) hT (s_X12_fillWays hN (hR.tr hT) (by first | exact hM | (rw [hT.2 219 (by decide)]; exact hM)) (hB) (by first | omega | decide | (simp only [Int32.le_iff_toInt_le, Int32.lt_iff_toInt_lt, ti_add, ti_sub, ti_mul, Int32.reduceToInt] at *; omega)) (by first | omega | decide | (simp only [Int32.le_iff_toInt_le, Int32.lt_iff_toInt_lt, ti_add, ti_sub, ti_mul, Int32.reduceToInt] at *; omega))) (by decide) (fun v10 σ11 hOσ11 hT hqv10 => ?_)
        have hqv10 : ZB σ11.1 := hqv10
        have hB : ZB σ11.1 := by first | exact hqv10 | exact ZB_s eσ11 hB
        refine ok_gC rfl ?_
        refine ok_zbT (Q := fun V σ => ZB σ.1) hT (s_X12_lays hN (hR.tr hT) (by first | exact hM | (rw [hT.2 219 (by decide)]; exact hM)) (hB) (by first | omega | decide | (simp only [Int32.le_iff_toInt_le, Int32.lt_iff_toInt_lt, ti_add, ti_sub, ti_mul, Int32.reduceToInt] at *; omega))) (by decide) (fun v12 σ13 hOσ13 hT hqv12 => ?_)
        have hqv12 : ZB σ13.1 := hqv12
        have hB : ZB σ13.1 := by first | exact hqv12 | exact ZB_s eσ13 hB
        exact ok_some ⟨hT, (show ZB σ13.1 from by exact hB)⟩

set_option maxHeartbeats 4000000 in
set_option maxRecDepth 100000 in
theorem s_X12_isPairs {N : Nat} (hN : 1048576 ≤ N) {x1 : Int32} {σ0 : zS}  (hR : RF σ0.2.2) (hM : MW (σ0.1 219) 0) : Ok (f_X12_isPairs N 218 x1 σ0) (fun r => Tr [238] σ0 r.2 ∧ (r.1 = 0 ∨ r.1 = 1)) := by
  have hT : Tr [238] σ0 σ0 := Tr.rf
  have hn := hM.1
  have he : 0 ≤ (σ0.1 219 2).toInt ∧ (σ0.1 219 2).toInt ≤ 10 := hM.2.1
  have qm := mny_b hn.1 hn.2
  rw [f_X12_isPairs.eq_1]
  refine ok_gC rfl ?_
  refine ok_zbT (Q := fun V σ => True) hT (s_X12_fillEnds hN (hR.tr hT) (by first | exact hM | (rw [hT.2 219 (by decide)]; exact hM))) (by decide) (fun v1 σ2 hOσ2 hT hqv1 => ?_)
  refine ok_lp (fun t : Int32 × Int32 × zS => Tr [238] σ0 (t.2.2) ∧ (0 ≤ (t.2.1).toInt ∧ ((t.1) = 0 ∨ (t.1) = 1))) (fun t : Int32 × Int32 × zS => (8 - (t.2.1).toInt).toNat) (fun again3 t hI ih9_3 => ?_) N _ (show Tr [238] σ0 σ2 ∧ (0 ≤ (0 : Int32).toInt ∧ ((1 : Int32) = 0 ∨ (1 : Int32) = 1)) from ⟨hT, (by exact ⟨by decide, Or.inr rfl⟩)⟩) (show (8 - (0 : Int32).toInt).toNat < N from (by first | omega | decide | (simp only [Int32.le_iff_toInt_le, Int32.lt_iff_toInt_lt, ti_add, ti_sub, ti_mul, Int32.reduceToInt] at *; omega)))
  obtain ⟨x2_3, x3_3, σ3⟩ := t
  have hI : Tr [238] σ0 σ3 ∧ (0 ≤ x3_3.toInt ∧ (x2_3 = 0 ∨ x2_3 = 1)) := hI
  obtain ⟨hT, hI3⟩ := hI
  rw [F_X12_isPairs_9.eq_1]
  have hz2 := hI3.2
  refine ok_if (fun hc4 => ?_) (fun hc4 => ?_)
  · exact ok_rZ (by assumption) ⟨hT, (show x2_3 = 0 ∨ x2_3 = 1 from by assumption)⟩
  · refine ok_if (fun hc5 => ?_) (fun hc5 => ?_)
    · exact ih9_3 (0, x3_3 + 1, σ3) (show Tr [238] σ0 σ3 ∧ (0 ≤ (x3_3 + 1).toInt ∧ ((0 : Int32) = 0 ∨ (0 : Int32) = 1)) from ⟨hT, (by refine ⟨by first | omega | (simp only [Int32.le_iff_toInt_le, Int32.lt_iff_toInt_lt, ti_add, ti_sub, ti_mul, Int32.reduceToInt] at *; omega), ?_⟩; first | exact Or.inl rfl | exact Or.inr rfl)⟩) (show (8 - (x3_3 + 1).toInt).toNat < (8 - x3_3.toInt).toNat from (by first | omega | decide | (simp only [Int32.le_iff_toInt_le, Int32.lt_iff_toInt_lt, ti_add, ti_sub, ti_mul, Int32.reduceToInt] at *; omega)))
    · refine ok_gR (v := 238) hT rfl (hR 218 34 rfl) ?_
      refine ok_aIn rfl (by first | omega | decide | (simp only [Int32.le_iff_toInt_le, Int32.lt_iff_toInt_lt, ti_add, ti_sub, ti_mul, Int32.reduceToInt] at *; omega)) (by first | omega | decide | (simp only [Int32.le_iff_toInt_le, Int32.lt_iff_toInt_lt, ti_add, ti_sub, ti_mul, Int32.reduceToInt] at *; omega)) (fun v7 ev7 => ?_)
      refine ok_if (fun hc8 => ?_) (fun hc8 => ?_)
      · exact ih9_3 (0, x3_3 + 1, σ3) (show Tr [238] σ0 σ3 ∧ (0 ≤ (x3_3 + 1).toInt ∧ ((0 : Int32) = 0 ∨ (0 : Int32) = 1)) from ⟨hT, (by refine ⟨by first | omega | (simp only [Int32.le_iff_toInt_le, Int32.lt_iff_toInt_lt, ti_add, ti_sub, ti_mul, Int32.reduceToInt] at *; omega), ?_⟩; first | exact Or.inl rfl | exact Or.inr rfl)⟩) (show (8 - (x3_3 + 1).toInt).toNat < (8 - x3_3.toInt).toNat from (by first | omega | decide | (simp only [Int32.le_iff_toInt_le, Int32.lt_iff_toInt_lt, ti_add, ti_sub, ti_mul, Int32.reduceToInt] at *; omega)))
      · exact ih9_3 (1, x3_3 + 1, σ3) (show Tr [238] σ0 σ3 ∧ (0 ≤ (x3_3 + 1).toInt ∧ ((1 : Int32) = 0 ∨ (1 : Int32) = 1)) from ⟨hT, (by refine ⟨by first | omega | (simp only [Int32.le_iff_toInt_le, Int32.lt_iff_toInt_lt, ti_add, ti_sub, ti_mul, Int32.reduceToInt] at *; omega), ?_⟩; first | exact Or.inl rfl | exact Or.inr rfl)⟩) (show (8 - (x3_3 + 1).toInt).toNat < (8 - x3_3.toInt).toNat from (by first | omega | decide | (simp only [Int32.le_iff_toInt_le, Int32.lt_iff_toInt_lt, ti_add, ti_sub, ti_mul, Int32.reduceToInt] at *; omega)))

set_option maxHeartbeats 4000000 in
set_option maxRecDepth 100000 in
theorem s_X12_isCover {N : Nat} (hN : 1048576 ≤ N) {x1 : Int32} {x2 : Int32} {σ0 : zS}  (hR : RF σ0.2.2) (hM : MW (σ0.1 219) 0) : Ok (f_X12_isCover N 218 x1 x2 σ0) (fun r => Tr [238] σ0 r.2 ∧ (r.1 = 0 ∨ r.1 = 1)) := by
  have hT : Tr [238] σ0 σ0 := Tr.rf
  have hn := hM.1
  have he : 0 ≤ (σ0.1 219 2).toInt ∧ (σ0.1 219 2).toInt ≤ 10 := hM.2.1
  have qm := mny_b hn.1 hn.2
  rw [f_X12_isCover.eq_1]
  refine ok_gC rfl ?_
  refine ok_zbT (Q := fun V σ => True) hT (s_X12_fillEnds hN (hR.tr hT) (by first | exact hM | (rw [hT.2 219 (by decide)]; exact hM))) (by decide) (fun v1 σ2 hOσ2 hT hqv1 => ?_)
  refine ok_lp (fun t : Int32 × Int32 × zS => Tr [238] σ0 (t.2.2) ∧ (0 ≤ (t.2.1).toInt ∧ ((t.1) = 0 ∨ (t.1) = 1))) (fun t : Int32 × Int32 × zS => (8 - (t.2.1).toInt).toNat) (fun again3 t hI ih10_3 => ?_) N _ (show Tr [238] σ0 σ2 ∧ (0 ≤ (0 : Int32).toInt ∧ ((1 : Int32) = 0 ∨ (1 : Int32) = 1)) from ⟨hT, (by exact ⟨by decide, Or.inr rfl⟩)⟩) (show (8 - (0 : Int32).toInt).toNat < N from (by first | omega | decide | (simp only [Int32.le_iff_toInt_le, Int32.lt_iff_toInt_lt, ti_add, ti_sub, ti_mul, Int32.reduceToInt] at *; omega)))
  obtain ⟨x3_3, x4_3, σ3⟩ := t
  have hI : Tr [238] σ0 σ3 ∧ (0 ≤ x4_3.toInt ∧ (x3_3 = 0 ∨ x3_3 = 1)) := hI
  obtain ⟨hT, hI3⟩ := hI
  rw [F_X12_isCover_10.eq_1]
  have hz2 := hI3.2
  refine ok_if (fun hc4 => ?_) (fun hc4 => ?_)
  · exact ok_rZ (by assumption) ⟨hT, (show x3_3 = 0 ∨ x3_3 = 1 from by assumption)⟩
  · refine ok_if (fun hc5 => ?_) (fun hc5 => ?_)
    · exact ih10_3 (0, x4_3 + 1, σ3) (show Tr [238] σ0 σ3 ∧ (0 ≤ (x4_3 + 1).toInt ∧ ((0 : Int32) = 0 ∨ (0 : Int32) = 1)) from ⟨hT, (by refine ⟨by first | omega | (simp only [Int32.le_iff_toInt_le, Int32.lt_iff_toInt_lt, ti_add, ti_sub, ti_mul, Int32.reduceToInt] at *; omega), ?_⟩; first | exact Or.inl rfl | exact Or.inr rfl)⟩) (show (8 - (x4_3 + 1).toInt).toNat < (8 - x4_3.toInt).toNat from (by first | omega | decide | (simp only [Int32.le_iff_toInt_le, Int32.lt_iff_toInt_lt, ti_add, ti_sub, ti_mul, Int32.reduceToInt] at *; omega)))
    · refine ok_if (fun hc6 => ?_) (fun hc6 => ?_)
      · exact ih10_3 (1, x4_3 + 1, σ3) (show Tr [238] σ0 σ3 ∧ (0 ≤ (x4_3 + 1).toInt ∧ ((1 : Int32) = 0 ∨ (1 : Int32) = 1)) from ⟨hT, (by refine ⟨by first | omega | (simp only [Int32.le_iff_toInt_le, Int32.lt_iff_toInt_lt, ti_add, ti_sub, ti_mul, Int32.reduceToInt] at *; omega), ?_⟩; first | exact Or.inl rfl | exact Or.inr rfl)⟩) (show (8 - (x4_3 + 1).toInt).toNat < (8 - x4_3.toInt).toNat from (by first | omega | decide | (simp only [Int32.le_iff_toInt_le, Int32.lt_iff_toInt_lt, ti_add, ti_sub, ti_mul, Int32.reduceToInt] at *; omega)))
      · refine ok_gR (v := 238) hT rfl (hR 218 34 rfl) ?_
        refine ok_aIn rfl (by first | omega | decide | (simp only [Int32.le_iff_toInt_le, Int32.lt_iff_toInt_lt, ti_add, ti_sub, ti_mul, Int32.reduceToInt] at *; omega)) (by first | omega | decide | (simp only [Int32.le_iff_toInt_le, Int32.lt_iff_toInt_lt, ti_add, ti_sub, ti_mul, Int32.reduceToInt] at *; omega)) (fun v8 ev8 => ?_)
        refine ok_if (fun hc9 => ?_) (fun hc9 => ?_)
        · exact ih10_3 (0, x4_3 + 1, σ3) (show Tr [238] σ0 σ3 ∧ (0 ≤ (x4_3 + 1).toInt ∧ ((0 : Int32) = 0 ∨ (0 : Int32) = 1)) from ⟨hT, (by refine ⟨by first | omega | (simp only [Int32.le_iff_toInt_le, Int32.lt_iff_toInt_lt, ti_add, ti_sub, ti_mul, Int32.reduceToInt] at *; omega), ?_⟩; first | exact Or.inl rfl | exact Or.inr rfl)⟩) (show (8 - (x4_3 + 1).toInt).toNat < (8 - x4_3.toInt).toNat from (by first | omega | decide | (simp only [Int32.le_iff_toInt_le, Int32.lt_iff_toInt_lt, ti_add, ti_sub, ti_mul, Int32.reduceToInt] at *; omega)))
        · exact ih10_3 (1, x4_3 + 1, σ3) (show Tr [238] σ0 σ3 ∧ (0 ≤ (x4_3 + 1).toInt ∧ ((1 : Int32) = 0 ∨ (1 : Int32) = 1)) from ⟨hT, (by refine ⟨by first | omega | (simp only [Int32.le_iff_toInt_le, Int32.lt_iff_toInt_lt, ti_add, ti_sub, ti_mul, Int32.reduceToInt] at *; omega), ?_⟩; first | exact Or.inl rfl | exact Or.inr rfl)⟩) (show (8 - (x4_3 + 1).toInt).toNat < (8 - x4_3.toInt).toNat from (by first | omega | decide | (simp only [Int32.le_iff_toInt_le, Int32.lt_iff_toInt_lt, ti_add, ti_sub, ti_mul, Int32.reduceToInt] at *; omega)))

set_option maxHeartbeats 4000000 in
set_option maxRecDepth 100000 in
theorem s_X12_crossings {N : Nat} (hN : 1048576 ≤ N)  {σ0 : zS}  (hR : RF σ0.2.2) (hM : MW (σ0.1 219) 0) : Ok (f_X12_crossings N 218 σ0) (fun r => Tr [] σ0 r.2 ∧ (0 ≤ r.1.toInt ∧ r.1.toInt ≤ 255)) := by
  have hT : Tr [] σ0 σ0 := Tr.rf
  have hn := hM.1
  have he : 0 ≤ (σ0.1 219 2).toInt ∧ (σ0.1 219 2).toInt ≤ 10 := hM.2.1
  have qm := mny_b hn.1 hn.2
  rw [f_X12_crossings.eq_1]
  refine ok_lp (fun t : Int32 × Int32 × zS => Tr [] σ0 (t.2.2) ∧ (0 ≤ (t.2.1).toInt ∧ 0 ≤ (t.1).toInt ∧ (t.1).toInt ≤ 255)) (fun t : Int32 × Int32 × zS => (10 - (t.2.1).toInt).toNat) (fun again1 t hI ih4_1 => ?_) N _ (show Tr [] σ0 σ0 ∧ (0 ≤ (0 : Int32).toInt ∧ 0 ≤ (0 : Int32).toInt ∧ (0 : Int32).toInt ≤ 255) from ⟨hT, (by first | omega | decide | (simp only [Int32.le_iff_toInt_le, Int32.lt_iff_toInt_lt, ti_add, ti_sub, ti_mul, Int32.reduceToInt] at *; omega))⟩) (show (10 - (0 : Int32).toInt).toNat < N from (by first | omega | decide | (simp only [Int32.le_iff_toInt_le, Int32.lt_iff_toInt_lt, ti_add, ti_sub, ti_mul, Int32.reduceToInt] at *; omega)))
  obtain ⟨x1_1, x2_1, σ1⟩ := t
  have hI : Tr [] σ0 σ1 ∧ (0 ≤ x2_1.toInt ∧ 0 ≤ x1_1.toInt ∧ x1_1.toInt ≤ 255) := hI
  obtain ⟨hT, hI1⟩ := hI
  rw [F_X12_crossings_4.eq_1]
  refine ok_gR (v := 219) hT rfl (hR 218 1 rfl) ?_
  refine ok_aIc (j := 2) hT rfl (by decide) rfl (by decide) (by decide) ?_
  refine ok_if (fun hc4 => ?_) (fun hc4 => ?_)
  · exact ok_some ⟨hT, (show 0 ≤ x1_1.toInt ∧ x1_1.toInt ≤ 255 from by first | omega | decide | (simp only [Int32.le_iff_toInt_le, Int32.lt_iff_toInt_lt, ti_add, ti_sub, ti_mul, Int32.reduceToInt] at *; omega))⟩
  · refine ok_gC rfl ?_
    refine ok_zbT (Q := fun V σ => 0 ≤ V.toInt ∧ V.toInt ≤ 7) hT (s_X12_one hN (hR.tr hT) (by first | exact hM | (rw [hT.2 219 (by decide)]; exact hM)) (by first | omega | decide | (simp only [Int32.le_iff_toInt_le, Int32.lt_iff_toInt_lt, ti_add, ti_sub, ti_mul, Int32.reduceToInt] at *; omega))) (fun _ h9 => absurd h9 List.not_mem_nil) (fun v5 σ6 hOσ6 hT hqv5 => ?_)
    have hqv5 : 0 ≤ v5.toInt ∧ v5.toInt ≤ 7 := hqv5
    have o1 := one7 (k := v5) (by omega) (by omega)
    refine ok_gC rfl ?_
    refine ok_zbT (Q := fun V σ => 0 ≤ V.toInt ∧ V.toInt ≤ 7) hT (s_X12_other hN (hR.tr hT) (by first | exact hM | (rw [hT.2 219 (by decide)]; exact hM)) (by first | omega | decide | (simp only [Int32.le_iff_toInt_le, Int32.lt_iff_toInt_lt, ti_add, ti_sub, ti_mul, Int32.reduceToInt] at *; omega))) (fun _ h9 => absurd h9 List.not_mem_nil) (fun v7 σ8 hOσ8 hT hqv7 => ?_)
    have hqv7 : 0 ≤ v7.toInt ∧ v7.toInt ≤ 7 := hqv7
    have o2 := one7 (k := v7) (by omega) (by omega)
    have o3 := or8 (a := x1_1) ⟨by omega, by omega⟩ (or8 o1 o2)
    exact ih4_1 (x1_1 ||| (((1 : Int32) <<< (v5 &&& 31)) ||| ((1 : Int32) <<< (v7 &&& 31))), x2_1 + 1, σ8) (show Tr [] σ0 σ8 ∧ (0 ≤ (x2_1 + 1).toInt ∧ 0 ≤ (x1_1 ||| (((1 : Int32) <<< (v5 &&& 31)) ||| ((1 : Int32) <<< (v7 &&& 31)))).toInt ∧ (x1_1 ||| (((1 : Int32) <<< (v5 &&& 31)) ||| ((1 : Int32) <<< (v7 &&& 31)))).toInt ≤ 255) from ⟨hT, (by first | omega | decide | (simp only [Int32.le_iff_toInt_le, Int32.lt_iff_toInt_lt, ti_add, ti_sub, ti_mul, Int32.reduceToInt] at *; omega))⟩) (show (10 - (x2_1 + 1).toInt).toNat < (10 - x2_1.toInt).toNat from (by first | omega | decide | (simp only [Int32.le_iff_toInt_le, Int32.lt_iff_toInt_lt, ti_add, ti_sub, ti_mul, Int32.reduceToInt] at *; omega)))

set_option maxHeartbeats 4000000 in
set_option maxRecDepth 100000 in
theorem s_X12_isTree {N : Nat} (hN : 1048576 ≤ N) {x1 : Int32} {x2 : Int32} {σ0 : zS}  (hR : RF σ0.2.2) (hM : MW (σ0.1 219) 0) (ha : 0 ≤ x2.toInt ∧ x2.toInt ≤ 255) : Ok (f_X12_isTree N 218 x1 x2 σ0) (fun r => Tr [] σ0 r.2 ∧ (r.1 = 0 ∨ r.1 = 1)) := by
  have hT : Tr [] σ0 σ0 := Tr.rf
  have hn := hM.1
  have he : 0 ≤ (σ0.1 219 2).toInt ∧ (σ0.1 219 2).toInt ≤ 10 := hM.2.1
  have qm := mny_b hn.1 hn.2
  rw [f_X12_isTree.eq_1]
  refine ok_if (fun hc1 => ?_) (fun hc1 => ?_)
  · refine ok_if (fun hc2 => ?_) (fun hc2 => ?_)
    · exact ok_rZ (Or.inr rfl) ⟨hT, (show (1 : Int32) = 0 ∨ (1 : Int32) = 1 from by first | exact Or.inl rfl | exact Or.inr rfl)⟩
    · exact ok_rZ (Or.inl rfl) ⟨hT, (show (0 : Int32) = 0 ∨ (0 : Int32) = 1 from by first | exact Or.inl rfl | exact Or.inr rfl)⟩
  · obtain ⟨k9, hk9, hb9⟩ := bit_ex ha.1 ha.2 (by assumption)
    refine ok_lp (fun t : Int32 × zS => Tr [] σ0 (t.2) ∧ (∃ k : Nat, k < 8 ∧ ((x2 >>> (nI k &&& 31)) &&& 1) ≠ 0 ∧ (t.1).toInt ≤ (k : Int) ∧ 0 ≤ (t.1).toInt)) (fun t : Int32 × zS => (8 - (t.1).toInt).toNat) (fun again3 t hI ih16_3 => ?_) N _ (show Tr [] σ0 σ0 ∧ (∃ k : Nat, k < 8 ∧ ((x2 >>> (nI k &&& 31)) &&& 1) ≠ 0 ∧ (0 : Int32).toInt ≤ (k : Int) ∧ 0 ≤ (0 : Int32).toInt) from ⟨hT, (by exact ⟨k9, hk9, hb9, by simp only [Int32.reduceToInt]; omega, by decide⟩)⟩) (show (8 - (0 : Int32).toInt).toNat < N from (by simp only [Int32.reduceToInt]; omega))
    obtain ⟨x3_3, σ3⟩ := t
    have hI : Tr [] σ0 σ3 ∧ (∃ k : Nat, k < 8 ∧ ((x2 >>> (nI k &&& 31)) &&& 1) ≠ 0 ∧ x3_3.toInt ≤ (k : Int) ∧ 0 ≤ x3_3.toInt) := hI
    obtain ⟨hT, hI3⟩ := hI
    rw [F_X12_isTree_16.eq_1]
    obtain ⟨k9, hk9, hb9, hle9, h09⟩ := hI3
    refine ok_if (fun hc4 => ?_) (fun hc4 => ?_)
    · have hlt : x3_3.toInt < (k9 : Int) := by
        rcases (show x3_3.toInt < (k9 : Int) ∨ x3_3.toInt = (k9 : Int) by omega) with q | q
        · exact q
        · exact absurd hc4 (by rw [show x3_3 = nI k9 from Int32.toInt_inj.mp (by rw [nI_toInt (by omega)]; exact q)]; exact hb9)
      exact ih16_3 (x3_3 + 1, σ3) (show Tr [] σ0 σ3 ∧ (∃ k : Nat, k < 8 ∧ ((x2 >>> (nI k &&& 31)) &&& 1) ≠ 0 ∧ (x3_3 + 1).toInt ≤ (k : Int) ∧ 0 ≤ (x3_3 + 1).toInt) from ⟨hT, (by exact ⟨k9, hk9, hb9, by simp only [ti_add, Int32.reduceToInt]; omega, by simp only [ti_add, Int32.reduceToInt]; omega⟩)⟩) (show (8 - (x3_3 + 1).toInt).toNat < (8 - x3_3.toInt).toNat from (by simp only [ti_add, Int32.reduceToInt]; omega))
    · refine ok_gC rfl ?_
      refine ok_zbT (Q := fun V σ => True) hT (s_X12_hangs hN (hR.tr hT) (by first | exact hM | (rw [hT.2 219 (by decide)]; exact hM))) (fun _ h9 => absurd h9 List.not_mem_nil) (fun v5 σ6 hOσ6 hT hqv5 => ?_)
      refine ok_if (fun hc7 => ?_) (fun hc7 => ?_)
      · refine ok_zbT (Q := fun V σ => True) hT (s_X12_namesOf hN (hR.tr hT) ) (fun _ h9 => absurd h9 List.not_mem_nil) (fun v8 σ9 hOσ9 hT hqv8 => ?_)
        refine ok_zbT (Q := fun V σ => True) hT (s_X12_namesOf hN (hR.tr hT) ) (fun _ h9 => absurd h9 List.not_mem_nil) (fun v10 σ11 hOσ11 hT hqv10 => ?_)
        refine ok_if (fun hc12 => ?_) (fun hc12 => ?_)
        · exact ok_rZ (Or.inr rfl) ⟨hT, (show (1 : Int32) = 0 ∨ (1 : Int32) = 1 from by first | exact Or.inl rfl | exact Or.inr rfl)⟩
        · exact ok_rZ (Or.inl rfl) ⟨hT, (show (0 : Int32) = 0 ∨ (0 : Int32) = 1 from by first | exact Or.inl rfl | exact Or.inr rfl)⟩
      · exact ok_rZ (Or.inl rfl) ⟨hT, (show (0 : Int32) = 0 ∨ (0 : Int32) = 1 from by first | exact Or.inl rfl | exact Or.inr rfl)⟩

set_option maxHeartbeats 4000000 in
set_option maxRecDepth 100000 in
theorem s_X12_map {N : Nat} (hN : 1048576 ≤ N) {x1 : Int32} {x2 : Int32} {σ0 : zS}  (hR : RF σ0.2.2) (hM : MW (σ0.1 219) 0) (hB : ZB σ0.1) : Ok (f_X12_map N 218 x1 x2 σ0) (fun r => Tr [220, 227, 238] σ0 r.2 ∧ (ZB r.2.1)) := by
  have hT : Tr [220, 227, 238] σ0 σ0 := Tr.rf
  have hn := hM.1
  have he : 0 ≤ (σ0.1 219 2).toInt ∧ (σ0.1 219 2).toInt ≤ 10 := hM.2.1
  have qm := mny_b hn.1 hn.2
  rw [f_X12_map.eq_1]
  refine ok_gC rfl ?_
  refine ok_zbT (Q := fun V σ => (V = 0 ∨ V = 1) ∧ (¬ V = 0 → 0 ≤ x1.toInt ∧ x1.toInt ≤ 9)) hT (s_X12_isRegister hN (hR.tr hT) (by first | exact hM | (rw [hT.2 219 (by decide)]; exact hM))) (fun _ h9 => absurd h9 List.not_mem_nil) (fun v1 σ2 hOσ2 hT hqv1 => ?_)
  have hqv1 : (v1 = 0 ∨ v1 = 1) ∧ (¬ v1 = 0 → 0 ≤ x1.toInt ∧ x1.toInt ≤ 9) := hqv1
  have hB : ZB σ2.1 := ZB.tr hOσ2 (by decide) hB
  refine ok_if (fun hc3 => ?_) (fun hc3 => ?_)
  · exact ok_some ⟨hT, (show ZB σ2.1 from by exact hB)⟩
  · have qhc3 := hqv1.2 hc3
    refine ok_zbT (Q := fun V σ => (V = 0 ∨ V = 1) ∧ (¬ V = 0 → (0 : Int64).toInt ≤ (Int32.toInt64 x2).toInt ∧ (Int32.toInt64 x2).toInt ≤ (2 : Int64).toInt)) hT (s_X12_in hN (hR.tr hT) ) (fun _ h9 => absurd h9 List.not_mem_nil) (fun v4 σ5 hOσ5 hT hqv4 => ?_)
    have hqv4 : (v4 = 0 ∨ v4 = 1) ∧ (¬ v4 = 0 → (0 : Int64).toInt ≤ (Int32.toInt64 x2).toInt ∧ (Int32.toInt64 x2).toInt ≤ (2 : Int64).toInt) := hqv4
    simp only [i64_of, Int64.reduceToInt] at hqv4
    have hB : ZB σ5.1 := ZB.tr hOσ5 (by decide) hB
    refine ok_if (fun hc6 => ?_) (fun hc6 => ?_)
    · exact ok_some ⟨hT, (show ZB σ5.1 from by exact hB)⟩
    · have qhc6 := hqv4.2 hc6
      refine ok_gC rfl ?_
      refine ok_zbT (Q := fun V σ => 0 ≤ V.toInt ∧ V.toInt ≤ 255) hT (s_X12_crossings hN (hR.tr hT) (by first | exact hM | (rw [hT.2 219 (by decide)]; exact hM))) (fun _ h9 => absurd h9 List.not_mem_nil) (fun v7 σ8 hOσ8 hT hqv7 => ?_)
      have hqv7 : 0 ≤ v7.toInt ∧ v7.toInt ≤ 255 := hqv7
      have hB : ZB σ8.1 := ZB.tr hOσ8 (by decide) hB
      refine ok_lp (fun t : Int32 × zS => Tr [220, 227, 238] σ0 (t.2) ∧ (0 ≤ (t.1).toInt) ∧ (ZB (t.2).1)) (fun t : Int32 × zS => ((1024 : Int32).toInt - (t.1).toInt).toNat) (fun again9 t hI ih31_9 => ?_) N _ (show Tr [220, 227, 238] σ0 σ8 ∧ (0 ≤ (0 : Int32).toInt) ∧ (ZB σ8.1) from ⟨hT, (by first | omega | decide | (simp only [Int32.le_iff_toInt_le, Int32.lt_iff_toInt_lt, ti_add, ti_sub, ti_mul, Int32.reduceToInt] at *; omega)), hB⟩) (show ((1024 : Int32).toInt - (0 : Int32).toInt).toNat < N from (by first | omega | decide | (simp only [Int32.le_iff_toInt_le, Int32.lt_iff_toInt_lt, ti_add, ti_sub, ti_mul, Int32.reduceToInt] at *; omega)))
      obtain ⟨x4_9, σ9⟩ := t
      have hI : Tr [220, 227, 238] σ0 σ9 ∧ (0 ≤ x4_9.toInt) ∧ (ZB σ9.1) := hI
      obtain ⟨hT, hI9, hB⟩ := hI
      rw [F_X12_map_31.eq_1]
      refine ok_if (fun hc10 => ?_) (fun hc10 => ?_)
      · refine ok_gC rfl ?_
        refine ok_zbT (Q := fun V σ => ZB σ.1) hT (s_X12_lays hN (hR.tr hT) (by first | exact hM | (rw [hT.2 219 (by decide)]; exact hM)) (hB) (by first | omega | decide | (simp only [Int32.le_iff_toInt_le, Int32.lt_iff_toInt_lt, ti_add, ti_sub, ti_mul, Int32.reduceToInt] at *; omega))) (by decide) (fun v11 σ12 hOσ12 hT hqv11 => ?_)
        have hqv11 : ZB σ12.1 := hqv11
        have hB : ZB σ12.1 := by first | exact hqv11 | exact ZB_s eσ12 hB
        exact ok_some ⟨hT, (show ZB σ12.1 from by exact hB)⟩
      · refine ok_gR (v := 227) hT rfl (hR 218 17 rfl) ?_
        refine ok_gR (v := 219) hT rfl (hR 218 1 rfl) ?_
        refine ok_aIc (j := 2) hT rfl (by decide) rfl (by decide) (by decide) ?_
        refine ok_if (fun hc16 => ?_) (fun hc16 => ?_)
        · refine ok_s16 hT rfl (by decide) (by first | omega | decide | (simp only [Int32.le_iff_toInt_le, Int32.lt_iff_toInt_lt, ti_add, ti_sub, ti_mul, Int32.reduceToInt] at *; omega)) (by first | omega | decide | (simp only [Int32.le_iff_toInt_le, Int32.lt_iff_toInt_lt, ti_add, ti_sub, ti_mul, Int32.reduceToInt] at *; omega)) (fun σ17 eσ17 hOσ17 hT => ?_)
          have hB : ZB σ17.1 := by first | exact HQ | exact ZB_s eσ17 hB
          exact ih31_9 (x4_9 + 1, σ17) (show Tr [220, 227, 238] σ0 σ17 ∧ (0 ≤ (x4_9 + 1).toInt) ∧ (ZB σ17.1) from ⟨hT, (by first | omega | decide | (simp only [Int32.le_iff_toInt_le, Int32.lt_iff_toInt_lt, ti_add, ti_sub, ti_mul, Int32.reduceToInt] at *; omega)), hB⟩) (show ((1024 : Int32).toInt - (x4_9 + 1).toInt).toNat < ((1024 : Int32).toInt - x4_9.toInt).toNat from (by first | omega | decide | (simp only [Int32.le_iff_toInt_le, Int32.lt_iff_toInt_lt, ti_add, ti_sub, ti_mul, Int32.reduceToInt] at *; omega)))
        · refine ok_if (fun hc18 => ?_) (fun hc18 => ?_)
          · refine ok_gC rfl ?_
            refine ok_zbT (Q := fun V σ => V = 0 ∨ V = 1) hT (s_X12_isTree hN (hR.tr hT) (by first | exact hM | (rw [hT.2 219 (by decide)]; exact hM)) (by first | omega | decide | (simp only [Int32.le_iff_toInt_le, Int32.lt_iff_toInt_lt, ti_add, ti_sub, ti_mul, Int32.reduceToInt] at *; omega))) (fun _ h9 => absurd h9 List.not_mem_nil) (fun v19 σ20 hOσ20 hT hqv19 => ?_)
            have hqv19 : v19 = 0 ∨ v19 = 1 := hqv19
            have hB : ZB σ20.1 := ZB.tr hOσ20 (by decide) hB
            refine ok_if (fun hc21 => ?_) (fun hc21 => ?_)
            · refine ok_s16 hT rfl (by decide) (by first | omega | decide | (simp only [Int32.le_iff_toInt_le, Int32.lt_iff_toInt_lt, ti_add, ti_sub, ti_mul, Int32.reduceToInt] at *; omega)) (by first | omega | decide | (simp only [Int32.le_iff_toInt_le, Int32.lt_iff_toInt_lt, ti_add, ti_sub, ti_mul, Int32.reduceToInt] at *; omega)) (fun σ22 eσ22 hOσ22 hT => ?_)
              have hB : ZB σ22.1 := by first | exact HQ | exact ZB_s eσ22 hB
              exact ih31_9 (x4_9 + 1, σ22) (show Tr [220, 227, 238] σ0 σ22 ∧ (0 ≤ (x4_9 + 1).toInt) ∧ (ZB σ22.1) from ⟨hT, (by first | omega | decide | (simp only [Int32.le_iff_toInt_le, Int32.lt_iff_toInt_lt, ti_add, ti_sub, ti_mul, Int32.reduceToInt] at *; omega)), hB⟩) (show ((1024 : Int32).toInt - (x4_9 + 1).toInt).toNat < ((1024 : Int32).toInt - x4_9.toInt).toNat from (by first | omega | decide | (simp only [Int32.le_iff_toInt_le, Int32.lt_iff_toInt_lt, ti_add, ti_sub, ti_mul, Int32.reduceToInt] at *; omega)))
            · refine ok_s16 hT rfl (by decide) (by first | omega | decide | (simp only [Int32.le_iff_toInt_le, Int32.lt_iff_toInt_lt, ti_add, ti_sub, ti_mul, Int32.reduceToInt] at *; omega)) (by first | omega | decide | (simp only [Int32.le_iff_toInt_le, Int32.lt_iff_toInt_lt, ti_add, ti_sub, ti_mul, Int32.reduceToInt] at *; omega)) (fun σ23 eσ23 hOσ23 hT => ?_)
              have hB : ZB σ23.1 := by first | exact HQ | exact ZB_s eσ23 hB
              exact ih31_9 (x4_9 + 1, σ23) (show Tr [220, 227, 238] σ0 σ23 ∧ (0 ≤ (x4_9 + 1).toInt) ∧ (ZB σ23.1) from ⟨hT, (by first | omega | decide | (simp only [Int32.le_iff_toInt_le, Int32.lt_iff_toInt_lt, ti_add, ti_sub, ti_mul, Int32.reduceToInt] at *; omega)), hB⟩) (show ((1024 : Int32).toInt - (x4_9 + 1).toInt).toNat < ((1024 : Int32).toInt - x4_9.toInt).toNat from (by first | omega | decide | (simp only [Int32.le_iff_toInt_le, Int32.lt_iff_toInt_lt, ti_add, ti_sub, ti_mul, Int32.reduceToInt] at *; omega)))
          · refine ok_if (fun hc24 => ?_) (fun hc24 => ?_)
            · refine ok_gC rfl ?_
              refine ok_zbT (Q := fun V σ => V = 0 ∨ V = 1) hT (s_X12_isPairs hN (hR.tr hT) (by first | exact hM | (rw [hT.2 219 (by decide)]; exact hM))) (by decide) (fun v25 σ26 hOσ26 hT hqv25 => ?_)
              have hqv25 : v25 = 0 ∨ v25 = 1 := hqv25
              have hB : ZB σ26.1 := ZB.tr hOσ26 (by decide) hB
              refine ok_if (fun hc27 => ?_) (fun hc27 => ?_)
              · refine ok_s16 hT rfl (by decide) (by first | omega | decide | (simp only [Int32.le_iff_toInt_le, Int32.lt_iff_toInt_lt, ti_add, ti_sub, ti_mul, Int32.reduceToInt] at *; omega)) (by first | omega | decide | (simp only [Int32.le_iff_toInt_le, Int32.lt_iff_toInt_lt, ti_add, ti_sub, ti_mul, Int32.reduceToInt] at *; omega)) (fun σ28 eσ28 hOσ28 hT => ?_)
                have hB : ZB σ28.1 := by first | exact HQ | exact ZB_s eσ28 hB
                exact ih31_9 (x4_9 + 1, σ28) (show Tr [220, 227, 238] σ0 σ28 ∧ (0 ≤ (x4_9 + 1).toInt) ∧ (ZB σ28.1) from ⟨hT, (by first | omega | decide | (simp only [Int32.le_iff_toInt_le, Int32.lt_iff_toInt_lt, ti_add, ti_sub, ti_mul, Int32.reduceToInt] at *; omega)), hB⟩) (show ((1024 : Int32).toInt - (x4_9 + 1).toInt).toNat < ((1024 : Int32).toInt - x4_9.toInt).toNat from (by first | omega | decide | (simp only [Int32.le_iff_toInt_le, Int32.lt_iff_toInt_lt, ti_add, ti_sub, ti_mul, Int32.reduceToInt] at *; omega)))
              · refine ok_s16 hT rfl (by decide) (by first | omega | decide | (simp only [Int32.le_iff_toInt_le, Int32.lt_iff_toInt_lt, ti_add, ti_sub, ti_mul, Int32.reduceToInt] at *; omega)) (by first | omega | decide | (simp only [Int32.le_iff_toInt_le, Int32.lt_iff_toInt_lt, ti_add, ti_sub, ti_mul, Int32.reduceToInt] at *; omega)) (fun σ29 eσ29 hOσ29 hT => ?_)
                have hB : ZB σ29.1 := by first | exact HQ | exact ZB_s eσ29 hB
                exact ih31_9 (x4_9 + 1, σ29) (show Tr [220, 227, 238] σ0 σ29 ∧ (0 ≤ (x4_9 + 1).toInt) ∧ (ZB σ29.1) from ⟨hT, (by first | omega | decide | (simp only [Int32.le_iff_toInt_le, Int32.lt_iff_toInt_lt, ti_add, ti_sub, ti_mul, Int32.reduceToInt] at *; omega)), hB⟩) (show ((1024 : Int32).toInt - (x4_9 + 1).toInt).toNat < ((1024 : Int32).toInt - x4_9.toInt).toNat from (by first | omega | decide | (simp only [Int32.le_iff_toInt_le, Int32.lt_iff_toInt_lt, ti_add, ti_sub, ti_mul, Int32.reduceToInt] at *; omega)))
            · refine ok_gC rfl ?_
              refine ok_zbT (Q := fun V σ => V = 0 ∨ V = 1) hT (s_X12_isCover hN (hR.tr hT) (by first | exact hM | (rw [hT.2 219 (by decide)]; exact hM))) (by decide) (fun v30 σ31 hOσ31 hT hqv30 => ?_)
              have hqv30 : v30 = 0 ∨ v30 = 1 := hqv30
              have hB : ZB σ31.1 := ZB.tr hOσ31 (by decide) hB
              refine ok_if (fun hc32 => ?_) (fun hc32 => ?_)
              · refine ok_s16 hT rfl (by decide) (by first | omega | decide | (simp only [Int32.le_iff_toInt_le, Int32.lt_iff_toInt_lt, ti_add, ti_sub, ti_mul, Int32.reduceToInt] at *; omega)) (by first | omega | decide | (simp only [Int32.le_iff_toInt_le, Int32.lt_iff_toInt_lt, ti_add, ti_sub, ti_mul, Int32.reduceToInt] at *; omega)) (fun σ33 eσ33 hOσ33 hT => ?_)
                have hB : ZB σ33.1 := by first | exact HQ | exact ZB_s eσ33 hB
                exact ih31_9 (x4_9 + 1, σ33) (show Tr [220, 227, 238] σ0 σ33 ∧ (0 ≤ (x4_9 + 1).toInt) ∧ (ZB σ33.1) from ⟨hT, (by first | omega | decide | (simp only [Int32.le_iff_toInt_le, Int32.lt_iff_toInt_lt, ti_add, ti_sub, ti_mul, Int32.reduceToInt] at *; omega)), hB⟩) (show ((1024 : Int32).toInt - (x4_9 + 1).toInt).toNat < ((1024 : Int32).toInt - x4_9.toInt).toNat from (by first | omega | decide | (simp only [Int32.le_iff_toInt_le, Int32.lt_iff_toInt_lt, ti_add, ti_sub, ti_mul, Int32.reduceToInt] at *; omega)))
              · refine ok_s16 hT rfl (by decide) (by first | omega | decide | (simp only [Int32.le_iff_toInt_le, Int32.lt_iff_toInt_lt, ti_add, ti_sub, ti_mul, Int32.reduceToInt] at *; omega)) (by first | omega | decide | (simp only [Int32.le_iff_toInt_le, Int32.lt_iff_toInt_lt, ti_add, ti_sub, ti_mul, Int32.reduceToInt] at *; omega)) (fun σ34 eσ34 hOσ34 hT => ?_)
                have hB : ZB σ34.1 := by first | exact HQ | exact ZB_s eσ34 hB
                exact ih31_9 (x4_9 + 1, σ34) (show Tr [220, 227, 238] σ0 σ34 ∧ (0 ≤ (x4_9 + 1).toInt) ∧ (ZB σ34.1) from ⟨hT, (by first | omega | decide | (simp only [Int32.le_iff_toInt_le, Int32.lt_iff_toInt_lt, ti_add, ti_sub, ti_mul, Int32.reduceToInt] at *; omega)), hB⟩) (show ((1024 : Int32).toInt - (x4_9 + 1).toInt).toNat < ((1024 : Int32).toInt - x4_9.toInt).toNat from (by first | omega | decide | (simp only [Int32.le_iff_toInt_le, Int32.lt_iff_toInt_lt, ti_add, ti_sub, ti_mul, Int32.reduceToInt] at *; omega)))

set_option maxHeartbeats 4000000 in
set_option maxRecDepth 100000 in
theorem s_X12_makes {N : Nat} (hN : 1048576 ≤ N) {x1 : Int32} {x2 : Int32} {x3 : Int32} {x4 : Int32} {σ0 : zS}  (hR : RF σ0.2.2) (hM : MW (σ0.1 219) 0) (hB : ZB σ0.1) : Ok (f_X12_makes N 218 x1 x2 x3 x4 σ0) (fun r => Tr [218, 220, 227, 228, 229] σ0 r.2 ∧ (ZB r.2.1 ∧ r.2.1 218 7 = σ0.1 218 7)) := by
  have hT : Tr [218, 220, 227, 228, 229] σ0 σ0 := Tr.rf
  have hn := hM.1
  have he : 0 ≤ (σ0.1 219 2).toInt ∧ (σ0.1 219 2).toInt ≤ 10 := hM.2.1
  have qm := mny_b hn.1 hn.2
  have ht : σ0.1 218 7 = σ0.1 218 7 := rfl
  rw [f_X12_makes.eq_1]
  refine ok_gC rfl ?_
  refine ok_zbT (Q := fun V σ => (V = 0 ∨ V = 1) ∧ (¬ V = 0 → 0 ≤ x1.toInt ∧ x1.toInt ≤ 9)) hT (s_X12_isRegister hN (hR.tr hT) (by first | exact hM | (rw [hT.2 219 (by decide)]; exact hM))) (fun _ h9 => absurd h9 List.not_mem_nil) (fun v1 σ2 hOσ2 hT hqv1 => ?_)
  have hqv1 : (v1 = 0 ∨ v1 = 1) ∧ (¬ v1 = 0 → 0 ≤ x1.toInt ∧ x1.toInt ≤ 9) := hqv1
  have hB : ZB σ2.1 := ZB.tr hOσ2 (by decide) hB
  have ht : σ2.1 218 7 = σ0.1 218 7 := by rw [hOσ2.2 218 (by decide)] <;> exact ht
  refine ok_if (fun hc3 => ?_) (fun hc3 => ?_)
  · exact ok_some ⟨hT, (show ZB σ2.1 ∧ σ2.1 218 7 = σ0.1 218 7 from by exact ⟨hB, ht⟩)⟩
  · have qhc3 := hqv1.2 hc3
    refine ok_zbT (Q := fun V σ => (V = 0 ∨ V = 1) ∧ (¬ V = 0 → (0 : Int64).toInt ≤ (Int32.toInt64 x2).toInt ∧ (Int32.toInt64 x2).toInt ≤ (6 : Int64).toInt)) hT (s_X12_in hN (hR.tr hT) ) (fun _ h9 => absurd h9 List.not_mem_nil) (fun v4 σ5 hOσ5 hT hqv4 => ?_)
    have hqv4 : (v4 = 0 ∨ v4 = 1) ∧ (¬ v4 = 0 → (0 : Int64).toInt ≤ (Int32.toInt64 x2).toInt ∧ (Int32.toInt64 x2).toInt ≤ (6 : Int64).toInt) := hqv4
    simp only [i64_of, Int64.reduceToInt] at hqv4
    have hB : ZB σ5.1 := ZB.tr hOσ5 (by decide) hB
    have ht : σ5.1 218 7 = σ0.1 218 7 := by rw [hOσ5.2 218 (by decide)] <;> exact ht
    refine ok_if (fun hc6 => ?_) (fun hc6 => ?_)
    · exact ok_some ⟨hT, (show ZB σ5.1 ∧ σ5.1 218 7 = σ0.1 218 7 from by exact ⟨hB, ht⟩)⟩
    · have qhc6 := hqv4.2 hc6
      refine ok_gC rfl ?_
      refine ok_zbT (Q := fun V σ => (V = 0 ∨ V = 1) ∧ (¬ V = 0 → 0 ≤ x3.toInt ∧ x3.toInt ≤ 9)) hT (s_X12_isRegister hN (hR.tr hT) (by first | exact hM | (rw [hT.2 219 (by decide)]; exact hM))) (fun _ h9 => absurd h9 List.not_mem_nil) (fun v7 σ8 hOσ8 hT hqv7 => ?_)
      have hqv7 : (v7 = 0 ∨ v7 = 1) ∧ (¬ v7 = 0 → 0 ≤ x3.toInt ∧ x3.toInt ≤ 9) := hqv7
      have hB : ZB σ8.1 := ZB.tr hOσ8 (by decide) hB
      have ht : σ8.1 218 7 = σ0.1 218 7 := by rw [hOσ8.2 218 (by decide)] <;> exact ht
      refine ok_if (fun hc9 => ?_) (fun hc9 => ?_)
      · exact ok_some ⟨hT, (show ZB σ8.1 ∧ σ8.1 218 7 = σ0.1 218 7 from by exact ⟨hB, ht⟩)⟩
      · have qhc9 := hqv7.2 hc9
        refine ok_gC rfl ?_
        refine ok_zbT (Q := fun V σ => (V = 0 ∨ V = 1) ∧ (¬ V = 0 → 0 ≤ x4.toInt ∧ x4.toInt ≤ 9)) hT (s_X12_isRegister hN (hR.tr hT) (by first | exact hM | (rw [hT.2 219 (by decide)]; exact hM))) (fun _ h9 => absurd h9 List.not_mem_nil) (fun v10 σ11 hOσ11 hT hqv10 => ?_)
        have hqv10 : (v10 = 0 ∨ v10 = 1) ∧ (¬ v10 = 0 → 0 ≤ x4.toInt ∧ x4.toInt ≤ 9) := hqv10
        have hB : ZB σ11.1 := ZB.tr hOσ11 (by decide) hB
        have ht : σ11.1 218 7 = σ0.1 218 7 := by rw [hOσ11.2 218 (by decide)] <;> exact ht
        refine ok_if (fun hc12 => ?_) (fun hc12 => ?_)
        · exact ok_some ⟨hT, (show ZB σ11.1 ∧ σ11.1 218 7 = σ0.1 218 7 from by exact ⟨hB, ht⟩)⟩
        · have qhc12 := hqv10.2 hc12
          refine ok_gC rfl ?_
          have hTc := hT
          refine ok_zbT (Q := fun V σ => V = mny (σ11.1 219 0)) hT (s_X12_many hN (hR.tr hT) (by first | exact hM | (rw [hT.2 219 (by decide)]; exact hM))) (fun _ h9 => absurd h9 List.not_mem_nil) (fun v13 σ14 hOσ14 hT hqv13 => ?_)
          have hqv13 : v13 = mny (σ11.1 219 0) := hqv13
          rw [hTc.2 219 (by decide)] at hqv13
          obtain rfl : v13 = (mny (σ0.1 219 0)) := hqv13
          have hB : ZB σ14.1 := ZB.tr hOσ14 (by decide) hB
          have ht : σ14.1 218 7 = σ0.1 218 7 := by rw [hOσ14.2 218 (by decide)] <;> exact ht
          refine ok_pI hT rfl (by decide) (fun σ15 eσ15 hOσ15 hT => ?_)
          have ha : 0 ≤ (σ15.1 218 20).toInt ∧ (σ15.1 218 20).toInt ≤ 1024 := by rw [zI_atI eσ15]; exact qm
          have hB : ZB σ15.1 := ZB.tr hOσ15 (by decide) hB
          have ht : σ15.1 218 7 = σ0.1 218 7 := by first | (rw [zI_atN eσ15 (by decide)]; exact ht) | exact HQ.2.trans ht
          refine ok_gR (v := 220) hT rfl (hR 218 2 rfl) ?_
          refine ok_gR (v := 220) hT rfl (hR 218 2 rfl) ?_
          refine ok_gC rfl ?_
          refine ok_zbT (Q := fun V σ => ZB σ.1) hT (s_X12_gives_220_220 hN (hR.tr hT) (hB) (ha) (by first | omega | decide | (simp only [Int32.le_iff_toInt_le, Int32.lt_iff_toInt_lt, ti_add, ti_sub, ti_mul, Int32.reduceToInt] at *; omega)) (by first | omega | decide | (simp only [Int32.le_iff_toInt_le, Int32.lt_iff_toInt_lt, ti_add, ti_sub, ti_mul, Int32.reduceToInt] at *; omega))) (by decide) (fun v18 σ19 hOσ19 hT hqv18 => ?_)
          have hqv18 : ZB σ19.1 := hqv18
          have hB : ZB σ19.1 := by first | exact hqv18 | exact hqv18.1 | exact ZB_s eσ19 hB
          have ht : σ19.1 218 7 = σ0.1 218 7 := by rw [hOσ19.2 218 (by decide)] <;> exact ht
          refine ok_gC rfl ?_
          refine ok_zbT (Q := fun V σ => ZB σ.1) hT (s_X12_lays hN (hR.tr hT) (by first | exact hM | (rw [hT.2 219 (by decide)]; exact hM)) (hB) (by first | omega | decide | (simp only [Int32.le_iff_toInt_le, Int32.lt_iff_toInt_lt, ti_add, ti_sub, ti_mul, Int32.reduceToInt] at *; omega))) (by decide) (fun v20 σ21 hOσ21 hT hqv20 => ?_)
          have hqv20 : ZB σ21.1 := hqv20
          have hB : ZB σ21.1 := by first | exact hqv20 | exact hqv20.1 | exact ZB_s eσ21 hB
          have ht : σ21.1 218 7 = σ0.1 218 7 := by rw [hOσ21.2 218 (by decide)] <;> exact ht
          exact ok_some ⟨hT, (show ZB σ21.1 ∧ σ21.1 218 7 = σ0.1 218 7 from by exact ⟨hB, ht⟩)⟩

set_option maxHeartbeats 4000000 in
set_option maxRecDepth 100000 in
theorem s_X12_turn {N : Nat} (hN : 1048576 ≤ N) {x1 : Int32} {x2 : Int32} {x3 : Int32} {σ0 : zS}  (hR : RF σ0.2.2) (hM : MW (σ0.1 219) 0) (hB : ZB σ0.1) : Ok (f_X12_turn N 218 x1 x2 x3 σ0) (fun r => Tr [218, 220, 227, 228] σ0 r.2 ∧ (ZB r.2.1 ∧ r.2.1 218 7 = σ0.1 218 7)) := by
  have hT : Tr [218, 220, 227, 228] σ0 σ0 := Tr.rf
  have hn := hM.1
  have he : 0 ≤ (σ0.1 219 2).toInt ∧ (σ0.1 219 2).toInt ≤ 10 := hM.2.1
  have qm := mny_b hn.1 hn.2
  have ht : σ0.1 218 7 = σ0.1 218 7 := rfl
  rw [f_X12_turn.eq_1]
  refine ok_gC rfl ?_
  refine ok_zbT (Q := fun V σ => (V = 0 ∨ V = 1) ∧ (¬ V = 0 → 0 ≤ x1.toInt ∧ x1.toInt ≤ 9)) hT (s_X12_isRegister hN (hR.tr hT) (by first | exact hM | (rw [hT.2 219 (by decide)]; exact hM))) (fun _ h9 => absurd h9 List.not_mem_nil) (fun v1 σ2 hOσ2 hT hqv1 => ?_)
  have hqv1 : (v1 = 0 ∨ v1 = 1) ∧ (¬ v1 = 0 → 0 ≤ x1.toInt ∧ x1.toInt ≤ 9) := hqv1
  have hB : ZB σ2.1 := ZB.tr hOσ2 (by decide) hB
  have ht : σ2.1 218 7 = σ0.1 218 7 := by rw [hOσ2.2 218 (by decide)] <;> exact ht
  refine ok_if (fun hc3 => ?_) (fun hc3 => ?_)
  · exact ok_some ⟨hT, (show ZB σ2.1 ∧ σ2.1 218 7 = σ0.1 218 7 from by exact ⟨hB, ht⟩)⟩
  · have qhc3 := hqv1.2 hc3
    refine ok_zbT (Q := fun V σ => (V = 0 ∨ V = 1) ∧ (¬ V = 0 → (0 : Int64).toInt ≤ (Int32.toInt64 x2).toInt ∧ (Int32.toInt64 x2).toInt ≤ (6 : Int64).toInt)) hT (s_X12_in hN (hR.tr hT) ) (fun _ h9 => absurd h9 List.not_mem_nil) (fun v4 σ5 hOσ5 hT hqv4 => ?_)
    have hqv4 : (v4 = 0 ∨ v4 = 1) ∧ (¬ v4 = 0 → (0 : Int64).toInt ≤ (Int32.toInt64 x2).toInt ∧ (Int32.toInt64 x2).toInt ≤ (6 : Int64).toInt) := hqv4
    simp only [i64_of, Int64.reduceToInt] at hqv4
    have hB : ZB σ5.1 := ZB.tr hOσ5 (by decide) hB
    have ht : σ5.1 218 7 = σ0.1 218 7 := by rw [hOσ5.2 218 (by decide)] <;> exact ht
    refine ok_if (fun hc6 => ?_) (fun hc6 => ?_)
    · exact ok_some ⟨hT, (show ZB σ5.1 ∧ σ5.1 218 7 = σ0.1 218 7 from by exact ⟨hB, ht⟩)⟩
    · have qhc6 := hqv4.2 hc6
      refine ok_gC rfl ?_
      refine ok_zbT (Q := fun V σ => (V = 0 ∨ V = 1) ∧ (¬ V = 0 → 0 ≤ x3.toInt ∧ x3.toInt ≤ 9)) hT (s_X12_isRegister hN (hR.tr hT) (by first | exact hM | (rw [hT.2 219 (by decide)]; exact hM))) (fun _ h9 => absurd h9 List.not_mem_nil) (fun v7 σ8 hOσ8 hT hqv7 => ?_)
      have hqv7 : (v7 = 0 ∨ v7 = 1) ∧ (¬ v7 = 0 → 0 ≤ x3.toInt ∧ x3.toInt ≤ 9) := hqv7
      have hB : ZB σ8.1 := ZB.tr hOσ8 (by decide) hB
      have ht : σ8.1 218 7 = σ0.1 218 7 := by rw [hOσ8.2 218 (by decide)] <;> exact ht
      refine ok_if (fun hc9 => ?_) (fun hc9 => ?_)
      · exact ok_some ⟨hT, (show ZB σ8.1 ∧ σ8.1 218 7 = σ0.1 218 7 from by exact ⟨hB, ht⟩)⟩
      · have qhc9 := hqv7.2 hc9
        refine ok_gC rfl ?_
        have hTc := hT
        refine ok_zbT (Q := fun V σ => V = mny (σ8.1 219 0)) hT (s_X12_many hN (hR.tr hT) (by first | exact hM | (rw [hT.2 219 (by decide)]; exact hM))) (fun _ h9 => absurd h9 List.not_mem_nil) (fun v10 σ11 hOσ11 hT hqv10 => ?_)
        have hqv10 : v10 = mny (σ8.1 219 0) := hqv10
        rw [hTc.2 219 (by decide)] at hqv10
        obtain rfl : v10 = (mny (σ0.1 219 0)) := hqv10
        have hB : ZB σ11.1 := ZB.tr hOσ11 (by decide) hB
        have ht : σ11.1 218 7 = σ0.1 218 7 := by rw [hOσ11.2 218 (by decide)] <;> exact ht
        refine ok_pI hT rfl (by decide) (fun σ12 eσ12 hOσ12 hT => ?_)
        have ha : 0 ≤ (σ12.1 218 20).toInt ∧ (σ12.1 218 20).toInt ≤ 1024 := by rw [zI_atI eσ12]; exact qm
        have hB : ZB σ12.1 := ZB.tr hOσ12 (by decide) hB
        have ht : σ12.1 218 7 = σ0.1 218 7 := by first | (rw [zI_atN eσ12 (by decide)]; exact ht) | exact HQ.2.trans ht
        refine ok_gR (v := 220) hT rfl (hR 218 2 rfl) ?_
        refine ok_gC rfl ?_
        refine ok_zbT (Q := fun V σ => ZB σ.1) hT (s_X12_turns_220 hN (hR.tr hT) (hB) (ha) (by first | omega | decide | (simp only [Int32.le_iff_toInt_le, Int32.lt_iff_toInt_lt, ti_add, ti_sub, ti_mul, Int32.reduceToInt] at *; omega))) (by decide) (fun v14 σ15 hOσ15 hT hqv14 => ?_)
        have hqv14 : ZB σ15.1 := hqv14
        have hB : ZB σ15.1 := by first | exact hqv14 | exact hqv14.1 | exact ZB_s eσ15 hB
        have ht : σ15.1 218 7 = σ0.1 218 7 := by rw [hOσ15.2 218 (by decide)] <;> exact ht
        refine ok_gC rfl ?_
        refine ok_zbT (Q := fun V σ => ZB σ.1) hT (s_X12_lays hN (hR.tr hT) (by first | exact hM | (rw [hT.2 219 (by decide)]; exact hM)) (hB) (by first | omega | decide | (simp only [Int32.le_iff_toInt_le, Int32.lt_iff_toInt_lt, ti_add, ti_sub, ti_mul, Int32.reduceToInt] at *; omega))) (by decide) (fun v16 σ17 hOσ17 hT hqv16 => ?_)
        have hqv16 : ZB σ17.1 := hqv16
        have hB : ZB σ17.1 := by first | exact hqv16 | exact hqv16.1 | exact ZB_s eσ17 hB
        have ht : σ17.1 218 7 = σ0.1 218 7 := by rw [hOσ17.2 218 (by decide)] <;> exact ht
        exact ok_some ⟨hT, (show ZB σ17.1 ∧ σ17.1 218 7 = σ0.1 218 7 from by exact ⟨hB, ht⟩)⟩

set_option maxHeartbeats 4000000 in
set_option maxRecDepth 100000 in
theorem s_X12_isHits {N : Nat} (hN : 1048576 ≤ N) {x1 : Int32} {x2 : Int32} {σ0 : zS}  (hR : RF σ0.2.2) (hM : MW (σ0.1 219) 0) (hB : ZB σ0.1) (hp : 0 ≤ x1.toInt ∧ x1.toInt ≤ 9) (hq : 0 ≤ x2.toInt ∧ x2.toInt ≤ 9) : Ok (f_X12_isHits N 218 x1 x2 σ0) (fun r => Tr [218, 227, 228] σ0 r.2 ∧ ((r.1 = 0 ∨ r.1 = 1) ∧ ZB r.2.1 ∧ r.2.1 218 7 = σ0.1 218 7)) := by
  have hT : Tr [218, 227, 228] σ0 σ0 := Tr.rf
  have hn := hM.1
  have he : 0 ≤ (σ0.1 219 2).toInt ∧ (σ0.1 219 2).toInt ≤ 10 := hM.2.1
  have qm := mny_b hn.1 hn.2
  have ht : σ0.1 218 7 = σ0.1 218 7 := rfl
  rw [f_X12_isHits.eq_1]
  refine ok_gC rfl ?_
  refine ok_zbT (Q := fun V σ => V = mny (σ0.1 219 0)) hT (s_X12_many hN (hR.tr hT) (by first | exact hM | (rw [hT.2 219 (by decide)]; exact hM))) (fun _ h9 => absurd h9 List.not_mem_nil) (fun v1 σ2 hOσ2 hT hqv1 => ?_)
  have hqv1 : v1 = mny (σ0.1 219 0) := hqv1
  obtain rfl : v1 = (mny (σ0.1 219 0)) := hqv1
  have hB : ZB σ2.1 := ZB.tr hOσ2 (by decide) hB
  have ht : σ2.1 218 7 = σ0.1 218 7 := by rw [hOσ2.2 218 (by decide)] <;> exact ht
  refine ok_pI hT rfl (by decide) (fun σ3 eσ3 hOσ3 hT => ?_)
  have ha : 0 ≤ (σ3.1 218 20).toInt ∧ (σ3.1 218 20).toInt ≤ 1024 := by rw [zI_atI eσ3]; exact qm
  have hB : ZB σ3.1 := ZB.tr hOσ3 (by decide) hB
  have ht : σ3.1 218 7 = σ0.1 218 7 := by rw [zI_atN eσ3 (by decide)]; exact ht
  refine ok_gR (v := 220) hT rfl (hR 218 2 rfl) ?_
  refine ok_gC rfl ?_
  refine ok_zbT (Q := fun V σ => ZB σ.1) hT (s_X12_turns_220 hN (hR.tr hT) (hB) (ha) (by first | omega | decide | (simp only [Int32.le_iff_toInt_le, Int32.lt_iff_toInt_lt, ti_add, ti_sub, ti_mul, Int32.reduceToInt] at *; omega))) (by decide) (fun v5 σ6 hOσ6 hT hqv5 => ?_)
  have hqv5 : ZB σ6.1 := hqv5
  have hB : ZB σ6.1 := by first | exact hqv5 | exact ZB_s eσ6 hB
  have ht : σ6.1 218 7 = σ0.1 218 7 := by rw [hOσ6.2 218 (by decide)] <;> exact ht
  have ha := (show 0 ≤ (σ6.1 218 20).toInt ∧ (σ6.1 218 20).toInt ≤ 1024 by rw [hOσ6.2 218 (by decide)]; exact ha)
  refine ok_lp (fun t : Int32 × zS => Tr [218, 227, 228] σ0 (t.2) ∧ (0 ≤ (t.1).toInt ∧ 0 ≤ ((t.2).1 218 20).toInt ∧ ((t.2).1 218 20).toInt ≤ 1024) ∧ (ZB (t.2).1) ∧ ((t.2).1 218 7 = σ0.1 218 7)) (fun t : Int32 × zS => (1024 - (t.1).toInt).toNat) (fun again7 t hI ih24_7 => ?_) N _ (show Tr [218, 227, 228] σ0 σ6 ∧ (0 ≤ (0 : Int32).toInt ∧ 0 ≤ (σ6.1 218 20).toInt ∧ (σ6.1 218 20).toInt ≤ 1024) ∧ (ZB σ6.1) ∧ (σ6.1 218 7 = σ0.1 218 7) from ⟨hT, (by first | omega | decide | (simp only [Int32.le_iff_toInt_le, Int32.lt_iff_toInt_lt, ti_add, ti_sub, ti_mul, Int32.reduceToInt] at *; omega)), hB, ht⟩) (show (1024 - (0 : Int32).toInt).toNat < N from (by first | omega | decide | (simp only [Int32.le_iff_toInt_le, Int32.lt_iff_toInt_lt, ti_add, ti_sub, ti_mul, Int32.reduceToInt] at *; omega)))
  obtain ⟨x3_7, σ7⟩ := t
  have hI : Tr [218, 227, 228] σ0 σ7 ∧ (0 ≤ x3_7.toInt ∧ 0 ≤ (σ7.1 218 20).toInt ∧ (σ7.1 218 20).toInt ≤ 1024) ∧ (ZB σ7.1) ∧ (σ7.1 218 7 = σ0.1 218 7) := hI
  obtain ⟨hT, hI7, hB, ht⟩ := hI
  rw [F_X12_isHits_24.eq_1]
  refine ok_gI rfl ?_
  refine ok_if (fun hc9 => ?_) (fun hc9 => ?_)
  · exact ok_rZ (Or.inr rfl) ⟨hT, (show ((1 : Int32) = 0 ∨ (1 : Int32) = 1) ∧ ZB σ7.1 ∧ σ7.1 218 7 = σ0.1 218 7 from by first | exact ⟨Or.inl rfl, hB, ht⟩ | exact ⟨Or.inr rfl, hB, ht⟩)⟩
  · refine ok_gC rfl ?_
    refine ok_zbT (Q := fun V σ => V = 0 ∨ V = 1) hT (s_X12_of hN (hR.tr hT) (by first | exact hM | (rw [hT.2 219 (by decide)]; exact hM)) (hB) (by first | omega | decide | (simp only [Int32.le_iff_toInt_le, Int32.lt_iff_toInt_lt, ti_add, ti_sub, ti_mul, Int32.reduceToInt] at *; omega)) (by first | omega | decide | (simp only [Int32.le_iff_toInt_le, Int32.lt_iff_toInt_lt, ti_add, ti_sub, ti_mul, Int32.reduceToInt] at *; omega))) (fun _ h9 => absurd h9 List.not_mem_nil) (fun v10 σ11 hOσ11 hT hqv10 => ?_)
    have hqv10 : v10 = 0 ∨ v10 = 1 := hqv10
    have hB : ZB σ11.1 := ZB.tr hOσ11 (by decide) hB
    have ht : σ11.1 218 7 = σ0.1 218 7 := by rw [hOσ11.2 218 (by decide)] <;> exact ht
    refine ok_gR (v := 227) hT rfl (hR 218 17 rfl) ?_
    refine ok_aIn rfl (by first | omega | decide | (simp only [Int32.le_iff_toInt_le, Int32.lt_iff_toInt_lt, ti_add, ti_sub, ti_mul, Int32.reduceToInt] at *; omega)) (by first | omega | decide | (simp only [Int32.le_iff_toInt_le, Int32.lt_iff_toInt_lt, ti_add, ti_sub, ti_mul, Int32.reduceToInt] at *; omega)) (fun v13 ev13 => ?_)
    have zv13 : v13 = 0 ∨ v13 = 1 := by rw [ev13]; exact hB 227 rfl _
    refine ok_if (fun hc14 => ?_) (fun hc14 => ?_)
    · exact ih24_7 (x3_7 + 1, σ11) (show Tr [218, 227, 228] σ0 σ11 ∧ (0 ≤ (x3_7 + 1).toInt ∧ 0 ≤ (σ11.1 218 20).toInt ∧ (σ11.1 218 20).toInt ≤ 1024) ∧ (ZB σ11.1) ∧ (σ11.1 218 7 = σ0.1 218 7) from ⟨hT, (by have h9 := congrArg Int32.toInt (congrFun (hOσ11.2 218 (by decide)) 20); first | omega | (simp only [Int32.le_iff_toInt_le, Int32.lt_iff_toInt_lt, ti_add, ti_sub, ti_mul, Int32.reduceToInt] at *; omega)), hB, ht⟩) (show (1024 - (x3_7 + 1).toInt).toNat < (1024 - x3_7.toInt).toNat from (by first | omega | decide | (simp only [Int32.le_iff_toInt_le, Int32.lt_iff_toInt_lt, ti_add, ti_sub, ti_mul, Int32.reduceToInt] at *; omega)))
    · exact ok_rZ (Or.inl rfl) ⟨hT, (show ((0 : Int32) = 0 ∨ (0 : Int32) = 1) ∧ ZB σ11.1 ∧ σ11.1 218 7 = σ0.1 218 7 from by first | exact ⟨Or.inl rfl, hB, ht⟩ | exact ⟨Or.inr rfl, hB, ht⟩)⟩

set_option maxHeartbeats 4000000 in
set_option maxRecDepth 100000 in
theorem s_X12_dual {N : Nat} (hN : 1048576 ≤ N) {x1 : Int32} {x2 : Int32} {σ0 : zS}  (hR : RF σ0.2.2) (hM : MW (σ0.1 219) 0) (hB : ZB σ0.1) : Ok (f_X12_dual N 218 x1 x2 σ0) (fun r => Tr [218, 227, 228] σ0 r.2 ∧ (ZB r.2.1 ∧ r.2.1 218 7 = σ0.1 218 7)) := by
  have hT : Tr [218, 227, 228] σ0 σ0 := Tr.rf
  have hn := hM.1
  have he : 0 ≤ (σ0.1 219 2).toInt ∧ (σ0.1 219 2).toInt ≤ 10 := hM.2.1
  have qm := mny_b hn.1 hn.2
  have ht : σ0.1 218 7 = σ0.1 218 7 := rfl
  rw [f_X12_dual.eq_1]
  refine ok_gC rfl ?_
  refine ok_zbT (Q := fun V σ => (V = 0 ∨ V = 1) ∧ (¬ V = 0 → (0 ≤ x1.toInt ∧ x1.toInt ≤ 9) ∧ 0 ≤ x2.toInt ∧ x2.toInt ≤ 9)) hT (s_X12_areRegisters hN (hR.tr hT) (by first | exact hM | (rw [hT.2 219 (by decide)]; exact hM)) (hB)) (fun _ h9 => absurd h9 List.not_mem_nil) (fun v1 σ2 hOσ2 hT hqv1 => ?_)
  have hqv1 : (v1 = 0 ∨ v1 = 1) ∧ (¬ v1 = 0 → (0 ≤ x1.toInt ∧ x1.toInt ≤ 9) ∧ 0 ≤ x2.toInt ∧ x2.toInt ≤ 9) := hqv1
  have hB : ZB σ2.1 := ZB.tr hOσ2 (by decide) hB
  have ht : σ2.1 218 7 = σ0.1 218 7 := by rw [hOσ2.2 218 (by decide)] <;> exact ht
  refine ok_if (fun hc3 => ?_) (fun hc3 => ?_)
  · exact ok_some ⟨hT, (show ZB σ2.1 ∧ σ2.1 218 7 = σ0.1 218 7 from by exact ⟨hB, ht⟩)⟩
  · have qhc3 := hqv1.2 hc3
    refine ok_gC rfl ?_
    refine ok_zbT (Q := fun V σ => (V = 0 ∨ V = 1) ∧ ZB σ.1 ∧ σ.1 218 7 = σ2.1 218 7) hT (s_X12_isHits hN (hR.tr hT) (by first | exact hM | (rw [hT.2 219 (by decide)]; exact hM)) (hB) (by first | omega | decide | (simp only [Int32.le_iff_toInt_le, Int32.lt_iff_toInt_lt, ti_add, ti_sub, ti_mul, Int32.reduceToInt] at *; omega)) (by first | omega | decide | (simp only [Int32.le_iff_toInt_le, Int32.lt_iff_toInt_lt, ti_add, ti_sub, ti_mul, Int32.reduceToInt] at *; omega))) (by decide) (fun v4 σ5 hOσ5 hT hqv4 => ?_)
    have hqv4 : (v4 = 0 ∨ v4 = 1) ∧ ZB σ5.1 ∧ σ5.1 218 7 = σ2.1 218 7 := hqv4
    have hB : ZB σ5.1 := hqv4.2.1
    have ht : σ5.1 218 7 = σ0.1 218 7 := hqv4.2.2.trans ht
    refine ok_if (fun hc6 => ?_) (fun hc6 => ?_)
    · exact ok_some ⟨hT, (show ZB σ5.1 ∧ σ5.1 218 7 = σ0.1 218 7 from by exact ⟨hB, ht⟩)⟩
    · refine ok_gC rfl ?_
      refine ok_zbT (Q := fun V σ => (V = 0 ∨ V = 1) ∧ ZB σ.1 ∧ σ.1 218 7 = σ5.1 218 7) hT (s_X12_isHits hN (hR.tr hT) (by first | exact hM | (rw [hT.2 219 (by decide)]; exact hM)) (hB) (by first | omega | decide | (simp only [Int32.le_iff_toInt_le, Int32.lt_iff_toInt_lt, ti_add, ti_sub, ti_mul, Int32.reduceToInt] at *; omega)) (by first | omega | decide | (simp only [Int32.le_iff_toInt_le, Int32.lt_iff_toInt_lt, ti_add, ti_sub, ti_mul, Int32.reduceToInt] at *; omega))) (by decide) (fun v7 σ8 hOσ8 hT hqv7 => ?_)
      have hqv7 : (v7 = 0 ∨ v7 = 1) ∧ ZB σ8.1 ∧ σ8.1 218 7 = σ5.1 218 7 := hqv7
      have hB : ZB σ8.1 := hqv7.2.1
      have ht : σ8.1 218 7 = σ0.1 218 7 := hqv7.2.2.trans ht
      refine ok_if (fun hc9 => ?_) (fun hc9 => ?_)
      · exact ok_some ⟨hT, (show ZB σ8.1 ∧ σ8.1 218 7 = σ0.1 218 7 from by exact ⟨hB, ht⟩)⟩
      · exact ok_some ⟨hT, (show ZB σ8.1 ∧ σ8.1 218 7 = σ0.1 218 7 from by exact ⟨hB, ht⟩)⟩

set_option maxHeartbeats 4000000 in
set_option maxRecDepth 100000 in
theorem s_X12_cuts {N : Nat} (hN : 1048576 ≤ N) {x1 : Int32} {x2 : Int32} {x3 : Int32} {σ0 : zS}  (hR : RF σ0.2.2) (hM : MW (σ0.1 219) 0) (hB : ZB σ0.1) : Ok (f_X12_cuts N 218 x1 x2 x3 σ0) (fun r => Tr [218, 220, 227, 228, 229, 238] σ0 r.2 ∧ (ZB r.2.1 ∧ r.2.1 218 7 = σ0.1 218 7)) := by
  have hT : Tr [218, 220, 227, 228, 229, 238] σ0 σ0 := Tr.rf
  have hn := hM.1
  have he : 0 ≤ (σ0.1 219 2).toInt ∧ (σ0.1 219 2).toInt ≤ 10 := hM.2.1
  have qm := mny_b hn.1 hn.2
  have ht : σ0.1 218 7 = σ0.1 218 7 := rfl
  rw [f_X12_cuts.eq_1]
  refine ok_gC rfl ?_
  refine ok_zbT (Q := fun V σ => (V = 0 ∨ V = 1) ∧ (¬ V = 0 → 0 ≤ x1.toInt ∧ x1.toInt ≤ 9)) hT (s_X12_isRegister hN (hR.tr hT) (by first | exact hM | (rw [hT.2 219 (by decide)]; exact hM))) (fun _ h9 => absurd h9 List.not_mem_nil) (fun v1 σ2 hOσ2 hT hqv1 => ?_)
  have hqv1 : (v1 = 0 ∨ v1 = 1) ∧ (¬ v1 = 0 → 0 ≤ x1.toInt ∧ x1.toInt ≤ 9) := hqv1
  have hB : ZB σ2.1 := ZB.tr hOσ2 (by decide) hB
  have ht : σ2.1 218 7 = σ0.1 218 7 := by rw [hOσ2.2 218 (by decide)] <;> exact ht
  refine ok_if (fun hc3 => ?_) (fun hc3 => ?_)
  · exact ok_some ⟨hT, (show ZB σ2.1 ∧ σ2.1 218 7 = σ0.1 218 7 from by exact ⟨hB, ht⟩)⟩
  · have qhc3 := hqv1.2 hc3
    refine ok_gC rfl ?_
    refine ok_zbT (Q := fun V σ => (V = 0 ∨ V = 1) ∧ (¬ V = 0 → 0 ≤ x2.toInt ∧ x2.toInt ≤ 7)) hT (s_X12_isCrossing hN (hR.tr hT) (by first | exact hM | (rw [hT.2 219 (by decide)]; exact hM))) (fun _ h9 => absurd h9 List.not_mem_nil) (fun v4 σ5 hOσ5 hT hqv4 => ?_)
    have hqv4 : (v4 = 0 ∨ v4 = 1) ∧ (¬ v4 = 0 → 0 ≤ x2.toInt ∧ x2.toInt ≤ 7) := hqv4
    have hB : ZB σ5.1 := ZB.tr hOσ5 (by decide) hB
    have ht : σ5.1 218 7 = σ0.1 218 7 := by rw [hOσ5.2 218 (by decide)] <;> exact ht
    refine ok_if (fun hc6 => ?_) (fun hc6 => ?_)
    · exact ok_some ⟨hT, (show ZB σ5.1 ∧ σ5.1 218 7 = σ0.1 218 7 from by exact ⟨hB, ht⟩)⟩
    · have qhc6 := hqv4.2 hc6
      refine ok_gC rfl ?_
      refine ok_zbT (Q := fun V σ => (V = 0 ∨ V = 1) ∧ (¬ V = 0 → 0 ≤ x3.toInt ∧ x3.toInt ≤ 7)) hT (s_X12_isCrossing hN (hR.tr hT) (by first | exact hM | (rw [hT.2 219 (by decide)]; exact hM))) (fun _ h9 => absurd h9 List.not_mem_nil) (fun v7 σ8 hOσ8 hT hqv7 => ?_)
      have hqv7 : (v7 = 0 ∨ v7 = 1) ∧ (¬ v7 = 0 → 0 ≤ x3.toInt ∧ x3.toInt ≤ 7) := hqv7
      have hB : ZB σ8.1 := ZB.tr hOσ8 (by decide) hB
      have ht : σ8.1 218 7 = σ0.1 218 7 := by rw [hOσ8.2 218 (by decide)] <;> exact ht
      refine ok_if (fun hc9 => ?_) (fun hc9 => ?_)
      · exact ok_some ⟨hT, (show ZB σ8.1 ∧ σ8.1 218 7 = σ0.1 218 7 from by exact ⟨hB, ht⟩)⟩
      · have qhc9 := hqv7.2 hc9
        refine ok_gC rfl ?_
        have hTc := hT
        refine ok_zbT (Q := fun V σ => V = mny (σ8.1 219 0)) hT (s_X12_many hN (hR.tr hT) (by first | exact hM | (rw [hT.2 219 (by decide)]; exact hM))) (fun _ h9 => absurd h9 List.not_mem_nil) (fun v10 σ11 hOσ11 hT hqv10 => ?_)
        have hqv10 : v10 = mny (σ8.1 219 0) := hqv10
        rw [hTc.2 219 (by decide)] at hqv10
        obtain rfl : v10 = (mny (σ0.1 219 0)) := hqv10
        have hB : ZB σ11.1 := ZB.tr hOσ11 (by decide) hB
        have ht : σ11.1 218 7 = σ0.1 218 7 := by rw [hOσ11.2 218 (by decide)] <;> exact ht
        refine ok_pI hT rfl (by decide) (fun σ12 eσ12 hOσ12 hT => ?_)
        have ha : 0 ≤ (σ12.1 218 20).toInt ∧ (σ12.1 218 20).toInt ≤ 1024 := by rw [zI_atI eσ12]; exact qm
        have hB : ZB σ12.1 := ZB.tr hOσ12 (by decide) hB
        have ht : σ12.1 218 7 = σ0.1 218 7 := by first | (rw [zI_atN eσ12 (by decide)]; exact ht) | exact HQ.2.trans ht
        refine ok_gC rfl ?_
        refine ok_zbT (Q := fun V σ => ZB σ.1) hT (s_X12_fillWays hN (hR.tr hT) (by first | exact hM | (rw [hT.2 219 (by decide)]; exact hM)) (hB) (by first | omega | decide | (simp only [Int32.le_iff_toInt_le, Int32.lt_iff_toInt_lt, ti_add, ti_sub, ti_mul, Int32.reduceToInt] at *; omega)) (by first | omega | decide | (simp only [Int32.le_iff_toInt_le, Int32.lt_iff_toInt_lt, ti_add, ti_sub, ti_mul, Int32.reduceToInt] at *; omega))) (by decide) (fun v13 σ14 hOσ14 hT hqv13 => ?_)
        have hqv13 : ZB σ14.1 := hqv13
        have hB : ZB σ14.1 := by first | exact hqv13 | exact hqv13.1 | exact ZB_s eσ14 hB
        have ht : σ14.1 218 7 = σ0.1 218 7 := by rw [hOσ14.2 218 (by decide)] <;> exact ht
        have ha := (show 0 ≤ (σ14.1 218 20).toInt ∧ (σ14.1 218 20).toInt ≤ 1024 by rw [hOσ14.2 218 (by decide)]; exact ha)
        refine ok_lp (fun t : Int32 × zS => Tr [218, 220, 227, 228, 229, 238] σ0 (t.2) ∧ (0 ≤ (t.1).toInt ∧ 0 ≤ ((t.2).1 218 20).toInt ∧ ((t.2).1 218 20).toInt ≤ 1024) ∧ (ZB (t.2).1) ∧ ((t.2).1 218 7 = σ0.1 218 7)) (fun t : Int32 × zS => (1024 - (t.1).toInt).toNat) (fun again15 t hI ih44_15 => ?_) N _ (show Tr [218, 220, 227, 228, 229, 238] σ0 σ14 ∧ (0 ≤ (0 : Int32).toInt ∧ 0 ≤ (σ14.1 218 20).toInt ∧ (σ14.1 218 20).toInt ≤ 1024) ∧ (ZB σ14.1) ∧ (σ14.1 218 7 = σ0.1 218 7) from ⟨hT, (by first | omega | decide | (simp only [Int32.le_iff_toInt_le, Int32.lt_iff_toInt_lt, ti_add, ti_sub, ti_mul, Int32.reduceToInt] at *; omega)), hB, ht⟩) (show (1024 - (0 : Int32).toInt).toNat < N from (by first | omega | decide | (simp only [Int32.le_iff_toInt_le, Int32.lt_iff_toInt_lt, ti_add, ti_sub, ti_mul, Int32.reduceToInt] at *; omega)))
        obtain ⟨x4_15, σ15⟩ := t
        have hI : Tr [218, 220, 227, 228, 229, 238] σ0 σ15 ∧ (0 ≤ x4_15.toInt ∧ 0 ≤ (σ15.1 218 20).toInt ∧ (σ15.1 218 20).toInt ≤ 1024) ∧ (ZB σ15.1) ∧ (σ15.1 218 7 = σ0.1 218 7) := hI
        obtain ⟨hT, hI15, hB, ht⟩ := hI
        rw [F_X12_cuts_44.eq_1]
        have ha := hI15.2
        refine ok_if (fun hc16 => ?_) (fun hc16 => ?_)
        · refine ok_gR (v := 229) hT rfl (hR 218 19 rfl) ?_
          refine ok_gC rfl ?_
          refine ok_zbT (Q := fun V σ => ZB σ.1) hT (s_X12_turns_229 hN (hR.tr hT) (hB) (ha) (by first | omega | decide | (simp only [Int32.le_iff_toInt_le, Int32.lt_iff_toInt_lt, ti_add, ti_sub, ti_mul, Int32.reduceToInt] at *; omega))) (by decide) (fun v18 σ19 hOσ19 hT hqv18 => ?_)
          have hqv18 : ZB σ19.1 := hqv18
          have hB : ZB σ19.1 := by first | exact hqv18 | exact hqv18.1 | exact ZB_s eσ19 hB
          have ht : σ19.1 218 7 = σ0.1 218 7 := by rw [hOσ19.2 218 (by decide)] <;> exact ht
          refine ok_gC rfl ?_
          refine ok_zbT (Q := fun V σ => ZB σ.1) hT (s_X12_lays hN (hR.tr hT) (by first | exact hM | (rw [hT.2 219 (by decide)]; exact hM)) (hB) (by first | omega | decide | (simp only [Int32.le_iff_toInt_le, Int32.lt_iff_toInt_lt, ti_add, ti_sub, ti_mul, Int32.reduceToInt] at *; omega))) (by decide) (fun v20 σ21 hOσ21 hT hqv20 => ?_)
          have hqv20 : ZB σ21.1 := hqv20
          have hB : ZB σ21.1 := by first | exact hqv20 | exact hqv20.1 | exact ZB_s eσ21 hB
          have ht : σ21.1 218 7 = σ0.1 218 7 := by rw [hOσ21.2 218 (by decide)] <;> exact ht
          exact ok_some ⟨hT, (show ZB σ21.1 ∧ σ21.1 218 7 = σ0.1 218 7 from by exact ⟨hB, ht⟩)⟩
        · refine ok_gR (v := 229) hT rfl (hR 218 19 rfl) ?_
          refine ok_gR (v := 227) hT rfl (hR 218 17 rfl) ?_
          refine ok_aIn rfl (by first | omega | decide | (simp only [Int32.le_iff_toInt_le, Int32.lt_iff_toInt_lt, ti_add, ti_sub, ti_mul, Int32.reduceToInt] at *; omega)) (by first | omega | decide | (simp only [Int32.le_iff_toInt_le, Int32.lt_iff_toInt_lt, ti_add, ti_sub, ti_mul, Int32.reduceToInt] at *; omega)) (fun v24 ev24 => ?_)
          have zv24 : v24 = 0 ∨ v24 = 1 := by rw [ev24]; exact hB 227 rfl _
          refine ok_s16 hT rfl (by decide) (by first | omega | decide | (simp only [Int32.le_iff_toInt_le, Int32.lt_iff_toInt_lt, ti_add, ti_sub, ti_mul, Int32.reduceToInt] at *; omega)) (by first | omega | decide | (simp only [Int32.le_iff_toInt_le, Int32.lt_iff_toInt_lt, ti_add, ti_sub, ti_mul, Int32.reduceToInt] at *; omega)) (fun σ25 eσ25 hOσ25 hT => ?_)
          have hB : ZB σ25.1 := by first | exact HQ | exact HQ.1 | exact ZB_s eσ25 hB
          have ht : σ25.1 218 7 = σ0.1 218 7 := by rw [hOσ25.2 218 (by decide)] <;> exact ht
          exact ih44_15 (x4_15 + 1, σ25) (show Tr [218, 220, 227, 228, 229, 238] σ0 σ25 ∧ (0 ≤ (x4_15 + 1).toInt ∧ 0 ≤ (σ25.1 218 20).toInt ∧ (σ25.1 218 20).toInt ≤ 1024) ∧ (ZB σ25.1) ∧ (σ25.1 218 7 = σ0.1 218 7) from ⟨hT, (by have h9 := congrArg Int32.toInt (congrFun (hOσ25.2 218 (by decide)) 20); first | omega | (simp only [Int32.le_iff_toInt_le, Int32.lt_iff_toInt_lt, ti_add, ti_sub, ti_mul, Int32.reduceToInt] at *; omega)), hB, ht⟩) (show (1024 - (x4_15 + 1).toInt).toNat < (1024 - x4_15.toInt).toNat from (by first | omega | decide | (simp only [Int32.le_iff_toInt_le, Int32.lt_iff_toInt_lt, ti_add, ti_sub, ti_mul, Int32.reduceToInt] at *; omega)))
end Zq6_1

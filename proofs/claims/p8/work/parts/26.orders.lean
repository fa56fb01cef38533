set_option maxHeartbeats 4000000 in
set_option maxRecDepth 100000 in
theorem s_X3_isGathered {N : Nat} (hN : 1048576 ≤ N) {x1 : Int64} {x3 : Int32} {σ0 : zS}  (hR : RF σ0.2.2)  : Ok (f_X3_isGathered N 120 x1 x3 σ0) (fun r => Tr [] σ0 r.2 ∧ (True)) := by
  have hT : Tr [] σ0 σ0 := Tr.rf
  rw [f_X3_isGathered.eq_1]
  refine ok_lp (fun t : Int32 × zS => Tr [] σ0 (t.2) ∧ (0 ≤ (t.1).toInt)) (fun t : Int32 × zS => (64 - (t.1).toInt).toNat) (fun again1 t hI ih3_1 => ?_) N _ (show Tr [] σ0 σ0 ∧ (0 ≤ (0 : Int32).toInt) from ⟨hT, (by first | omega | decide | (simp only [Int32.le_iff_toInt_le, Int32.lt_iff_toInt_lt, ti_add, ti_sub, ti_mul, Int32.reduceToInt] at *; omega))⟩) (show (64 - (0 : Int32).toInt).toNat < N from (by first | omega | decide | (simp only [Int32.le_iff_toInt_le, Int32.lt_iff_toInt_lt, ti_add, ti_sub, ti_mul, Int32.reduceToInt] at *; omega)))
  obtain ⟨x4_1, σ1⟩ := t
  have hI : Tr [] σ0 σ1 ∧ (0 ≤ x4_1.toInt) := hI
  obtain ⟨hT, hI1⟩ := hI
  rw [F_X3_isGathered_3.eq_1]
  refine ok_if (fun hc2 => ?_) (fun hc2 => ?_)
  · exact ok_rZ (Or.inl rfl) ⟨hT, trivial⟩
  · refine ok_if (fun hc3 => ?_) (fun hc3 => ?_)
    · exact ok_rZ (Or.inl rfl) ⟨hT, trivial⟩
    · refine ok_gR (v := 121) hT rfl (hR 120 0 rfl) ?_
      refine ok_aJ rfl (by first | omega | decide | (simp only [Int32.le_iff_toInt_le, Int32.lt_iff_toInt_lt, ti_add, ti_sub, ti_mul, Int32.reduceToInt] at *; omega)) (by first | omega | decide | (simp only [Int32.le_iff_toInt_le, Int32.lt_iff_toInt_lt, ti_add, ti_sub, ti_mul, Int32.reduceToInt] at *; omega)) ?_
      generalize σ1.2.1 (121) (Int32.toNatClampNeg (x4_1)) = v5
      refine ok_if (fun hc6 => ?_) (fun hc6 => ?_)
      · exact ok_rZ (Or.inr rfl) ⟨hT, trivial⟩
      · exact ih3_1 (x4_1 + 1, σ1) (show Tr [] σ0 σ1 ∧ (0 ≤ (x4_1 + 1).toInt) from ⟨hT, (by first | omega | decide | (simp only [Int32.le_iff_toInt_le, Int32.lt_iff_toInt_lt, ti_add, ti_sub, ti_mul, Int32.reduceToInt] at *; omega))⟩) (show (64 - (x4_1 + 1).toInt).toNat < (64 - x4_1.toInt).toNat from (by first | omega | decide | (simp only [Int32.le_iff_toInt_le, Int32.lt_iff_toInt_lt, ti_add, ti_sub, ti_mul, Int32.reduceToInt] at *; omega)))

set_option maxHeartbeats 4000000 in
set_option maxRecDepth 100000 in
theorem s_X3_partsWith {N : Nat} (hN : 1048576 ≤ N) {x1 : Int32} {x2 : Int32} {σ0 : zS}  (hR : RF σ0.2.2)  : Ok (f_X3_partsWith N 120 x1 x2 σ0) (fun r => Tr [] σ0 r.2 ∧ (True)) := by
  have hT : Tr [] σ0 σ0 := Tr.rf
  rw [f_X3_partsWith.eq_1]
  refine ok_if (fun hc1 => ?_) (fun hc1 => ?_)
  · rw [J_X3_partsWith_23.eq_1]
    refine ok_lp (fun t : Int32 × Int32 × zS => Tr [] σ0 (t.2.2) ∧ (0 ≤ (t.2.1).toInt)) (fun t : Int32 × Int32 × zS => (64 - (t.2.1).toInt).toNat) (fun again2 t hI ih30_2 => ?_) N _ (show Tr [] σ0 σ0 ∧ (0 ≤ (0 : Int32).toInt) from ⟨hT, (by first | omega | decide | (simp only [Int32.le_iff_toInt_le, Int32.lt_iff_toInt_lt, ti_add, ti_sub, ti_mul, Int32.reduceToInt] at *; omega))⟩) (show (64 - (0 : Int32).toInt).toNat < N from (by first | omega | decide | (simp only [Int32.le_iff_toInt_le, Int32.lt_iff_toInt_lt, ti_add, ti_sub, ti_mul, Int32.reduceToInt] at *; omega)))
    obtain ⟨x5_2, x6_2, σ2⟩ := t
    have hI : Tr [] σ0 σ2 ∧ (0 ≤ x6_2.toInt) := hI
    obtain ⟨hT, hI2⟩ := hI
    rw [F_X3_partsWith_30.eq_1]
    refine ok_if (fun hc3 => ?_) (fun hc3 => ?_)
    · exact ok_some ⟨hT, trivial⟩
    · refine ok_if (fun hc4 => ?_) (fun hc4 => ?_)
      · exact ok_some ⟨hT, trivial⟩
      · refine ok_gR (v := 121) hT rfl (hR 120 0 rfl) ?_
        refine ok_aJ rfl (by first | omega | decide | (simp only [Int32.le_iff_toInt_le, Int32.lt_iff_toInt_lt, ti_add, ti_sub, ti_mul, Int32.reduceToInt] at *; omega)) (by first | omega | decide | (simp only [Int32.le_iff_toInt_le, Int32.lt_iff_toInt_lt, ti_add, ti_sub, ti_mul, Int32.reduceToInt] at *; omega)) ?_
        generalize σ2.2.1 (121) (Int32.toNatClampNeg (x6_2)) = v6
        refine ok_if (fun hc7 => ?_) (fun hc7 => ?_)
        · exact ih30_2 (x5_2, x6_2 + 1, σ2) (show Tr [] σ0 σ2 ∧ (0 ≤ (x6_2 + 1).toInt) from ⟨hT, (by first | omega | decide | (simp only [Int32.le_iff_toInt_le, Int32.lt_iff_toInt_lt, ti_add, ti_sub, ti_mul, Int32.reduceToInt] at *; omega))⟩) (show (64 - (x6_2 + 1).toInt).toNat < (64 - x6_2.toInt).toNat from (by first | omega | decide | (simp only [Int32.le_iff_toInt_le, Int32.lt_iff_toInt_lt, ti_add, ti_sub, ti_mul, Int32.reduceToInt] at *; omega)))
        · exact ih30_2 (x5_2 + 1, x6_2 + 1, σ2) (show Tr [] σ0 σ2 ∧ (0 ≤ (x6_2 + 1).toInt) from ⟨hT, (by first | omega | decide | (simp only [Int32.le_iff_toInt_le, Int32.lt_iff_toInt_lt, ti_add, ti_sub, ti_mul, Int32.reduceToInt] at *; omega))⟩) (show (64 - (x6_2 + 1).toInt).toNat < (64 - x6_2.toInt).toNat from (by first | omega | decide | (simp only [Int32.le_iff_toInt_le, Int32.lt_iff_toInt_lt, ti_add, ti_sub, ti_mul, Int32.reduceToInt] at *; omega)))
  · refine ok_if (fun hc8 => ?_) (fun hc8 => ?_)
    · rw [J_X3_partsWith_23.eq_1]
      refine ok_lp (fun t : Int32 × Int32 × zS => Tr [] σ0 (t.2.2) ∧ (0 ≤ (t.2.1).toInt)) (fun t : Int32 × Int32 × zS => (64 - (t.2.1).toInt).toNat) (fun again9 t hI ih30_9 => ?_) N _ (show Tr [] σ0 σ0 ∧ (0 ≤ (0 : Int32).toInt) from ⟨hT, (by first | omega | decide | (simp only [Int32.le_iff_toInt_le, Int32.lt_iff_toInt_lt, ti_add, ti_sub, ti_mul, Int32.reduceToInt] at *; omega))⟩) (show (64 - (0 : Int32).toInt).toNat < N from (by first | omega | decide | (simp only [Int32.le_iff_toInt_le, Int32.lt_iff_toInt_lt, ti_add, ti_sub, ti_mul, Int32.reduceToInt] at *; omega)))
      obtain ⟨x5_9, x6_9, σ9⟩ := t
      have hI : Tr [] σ0 σ9 ∧ (0 ≤ x6_9.toInt) := hI
      obtain ⟨hT, hI9⟩ := hI
      rw [F_X3_partsWith_30.eq_1]
      refine ok_if (fun hc10 => ?_) (fun hc10 => ?_)
      · exact ok_some ⟨hT, trivial⟩
      · refine ok_if (fun hc11 => ?_) (fun hc11 => ?_)
        · exact ok_some ⟨hT, trivial⟩
        · refine ok_gR (v := 121) hT rfl (hR 120 0 rfl) ?_
          refine ok_aJ rfl (by first | omega | decide | (simp only [Int32.le_iff_toInt_le, Int32.lt_iff_toInt_lt, ti_add, ti_sub, ti_mul, Int32.reduceToInt] at *; omega)) (by first | omega | decide | (simp only [Int32.le_iff_toInt_le, Int32.lt_iff_toInt_lt, ti_add, ti_sub, ti_mul, Int32.reduceToInt] at *; omega)) ?_
          generalize σ9.2.1 (121) (Int32.toNatClampNeg (x6_9)) = v13
          refine ok_if (fun hc14 => ?_) (fun hc14 => ?_)
          · exact ih30_9 (x5_9, x6_9 + 1, σ9) (show Tr [] σ0 σ9 ∧ (0 ≤ (x6_9 + 1).toInt) from ⟨hT, (by first | omega | decide | (simp only [Int32.le_iff_toInt_le, Int32.lt_iff_toInt_lt, ti_add, ti_sub, ti_mul, Int32.reduceToInt] at *; omega))⟩) (show (64 - (x6_9 + 1).toInt).toNat < (64 - x6_9.toInt).toNat from (by first | omega | decide | (simp only [Int32.le_iff_toInt_le, Int32.lt_iff_toInt_lt, ti_add, ti_sub, ti_mul, Int32.reduceToInt] at *; omega)))
          · exact ih30_9 (x5_9 + 1, x6_9 + 1, σ9) (show Tr [] σ0 σ9 ∧ (0 ≤ (x6_9 + 1).toInt) from ⟨hT, (by first | omega | decide | (simp only [Int32.le_iff_toInt_le, Int32.lt_iff_toInt_lt, ti_add, ti_sub, ti_mul, Int32.reduceToInt] at *; omega))⟩) (show (64 - (x6_9 + 1).toInt).toNat < (64 - x6_9.toInt).toNat from (by first | omega | decide | (simp only [Int32.le_iff_toInt_le, Int32.lt_iff_toInt_lt, ti_add, ti_sub, ti_mul, Int32.reduceToInt] at *; omega)))
    · refine ok_aW (by first | omega | decide | (simp only [Int32.le_iff_toInt_le, Int32.lt_iff_toInt_lt, ti_add, ti_sub, ti_mul, Int32.reduceToInt] at *; omega)) (by first | omega | decide | (simp only [Int32.le_iff_toInt_le, Int32.lt_iff_toInt_lt, ti_add, ti_sub, ti_mul, Int32.reduceToInt] at *; omega)) ?_
      generalize zWo (Int32.toNatClampNeg (x1)) = v15
      rw [J_X3_partsWith_23.eq_1]
      refine ok_lp (fun t : Int32 × Int32 × zS => Tr [] σ0 (t.2.2) ∧ (0 ≤ (t.2.1).toInt)) (fun t : Int32 × Int32 × zS => (64 - (t.2.1).toInt).toNat) (fun again16 t hI ih30_16 => ?_) N _ (show Tr [] σ0 σ0 ∧ (0 ≤ (0 : Int32).toInt) from ⟨hT, (by first | omega | decide | (simp only [Int32.le_iff_toInt_le, Int32.lt_iff_toInt_lt, ti_add, ti_sub, ti_mul, Int32.reduceToInt] at *; omega))⟩) (show (64 - (0 : Int32).toInt).toNat < N from (by first | omega | decide | (simp only [Int32.le_iff_toInt_le, Int32.lt_iff_toInt_lt, ti_add, ti_sub, ti_mul, Int32.reduceToInt] at *; omega)))
      obtain ⟨x5_16, x6_16, σ16⟩ := t
      have hI : Tr [] σ0 σ16 ∧ (0 ≤ x6_16.toInt) := hI
      obtain ⟨hT, hI16⟩ := hI
      rw [F_X3_partsWith_30.eq_1]
      refine ok_if (fun hc17 => ?_) (fun hc17 => ?_)
      · exact ok_some ⟨hT, trivial⟩
      · refine ok_if (fun hc18 => ?_) (fun hc18 => ?_)
        · exact ok_some ⟨hT, trivial⟩
        · refine ok_gR (v := 121) hT rfl (hR 120 0 rfl) ?_
          refine ok_aJ rfl (by first | omega | decide | (simp only [Int32.le_iff_toInt_le, Int32.lt_iff_toInt_lt, ti_add, ti_sub, ti_mul, Int32.reduceToInt] at *; omega)) (by first | omega | decide | (simp only [Int32.le_iff_toInt_le, Int32.lt_iff_toInt_lt, ti_add, ti_sub, ti_mul, Int32.reduceToInt] at *; omega)) ?_
          generalize σ16.2.1 (121) (Int32.toNatClampNeg (x6_16)) = v20
          refine ok_if (fun hc21 => ?_) (fun hc21 => ?_)
          · exact ih30_16 (x5_16, x6_16 + 1, σ16) (show Tr [] σ0 σ16 ∧ (0 ≤ (x6_16 + 1).toInt) from ⟨hT, (by first | omega | decide | (simp only [Int32.le_iff_toInt_le, Int32.lt_iff_toInt_lt, ti_add, ti_sub, ti_mul, Int32.reduceToInt] at *; omega))⟩) (show (64 - (x6_16 + 1).toInt).toNat < (64 - x6_16.toInt).toNat from (by first | omega | decide | (simp only [Int32.le_iff_toInt_le, Int32.lt_iff_toInt_lt, ti_add, ti_sub, ti_mul, Int32.reduceToInt] at *; omega)))
          · exact ih30_16 (x5_16 + 1, x6_16 + 1, σ16) (show Tr [] σ0 σ16 ∧ (0 ≤ (x6_16 + 1).toInt) from ⟨hT, (by first | omega | decide | (simp only [Int32.le_iff_toInt_le, Int32.lt_iff_toInt_lt, ti_add, ti_sub, ti_mul, Int32.reduceToInt] at *; omega))⟩) (show (64 - (x6_16 + 1).toInt).toNat < (64 - x6_16.toInt).toNat from (by first | omega | decide | (simp only [Int32.le_iff_toInt_le, Int32.lt_iff_toInt_lt, ti_add, ti_sub, ti_mul, Int32.reduceToInt] at *; omega)))

set_option maxHeartbeats 4000000 in
set_option maxRecDepth 100000 in
theorem s_X3_gatherParts {N : Nat} (hN : 1048576 ≤ N) {x1 : Int64} {x3 : Int32} {x4 : Int32} {σ0 : zS}  (hR : RF σ0.2.2)  : Ok (f_X3_gatherParts N 120 x1 x3 x4 σ0) (fun r => Tr [] σ0 r.2 ∧ (0 ≤ r.1.toInt ∧ r.1.toInt ≤ 64)) := by
  have hT : Tr [] σ0 σ0 := Tr.rf
  rw [f_X3_gatherParts.eq_1]
  refine ok_lp (fun t : Int64 × Int32 × zS => Tr [] σ0 (t.2.2) ∧ (0 ≤ (t.2.1).toInt)) (fun t : Int64 × Int32 × zS => (6 - (t.2.1).toInt).toNat) (fun again1 t hI ih6_1 => ?_) N _ (show Tr [] σ0 σ0 ∧ (0 ≤ (0 : Int32).toInt) from ⟨hT, (by first | omega | decide | (simp only [Int32.le_iff_toInt_le, Int32.lt_iff_toInt_lt, ti_add, ti_sub, ti_mul, Int32.reduceToInt] at *; omega))⟩) (show (6 - (0 : Int32).toInt).toNat < N from (by first | omega | decide | (simp only [Int32.le_iff_toInt_le, Int32.lt_iff_toInt_lt, ti_add, ti_sub, ti_mul, Int32.reduceToInt] at *; omega)))
  obtain ⟨x5_1, x7_1, σ1⟩ := t
  have hI : Tr [] σ0 σ1 ∧ (0 ≤ x7_1.toInt) := hI
  obtain ⟨hT, hI1⟩ := hI
  rw [F_X3_gatherParts_6.eq_1]
  refine ok_if (fun hc2 => ?_) (fun hc2 => ?_)
  · refine ok_lp (fun t : Int32 × Int32 × Int32 × zS => Tr [] σ0 (t.2.2.2) ∧ (0 ≤ (t.2.2.1).toInt ∧ 0 ≤ (t.1).toInt ∧ (t.1).toInt ≤ 64)) (fun t : Int32 × Int32 × Int32 × zS => (64 - (t.2.2.1).toInt).toNat) (fun again3 t hI ih54_3 => ?_) N _ (show Tr [] σ0 σ1 ∧ (0 ≤ (0 : Int32).toInt ∧ 0 ≤ (0 : Int32).toInt ∧ (0 : Int32).toInt ≤ 64) from ⟨hT, (by first | omega | decide | (simp only [Int32.le_iff_toInt_le, Int32.lt_iff_toInt_lt, ti_add, ti_sub, ti_mul, Int32.reduceToInt] at *; omega))⟩) (show (64 - (0 : Int32).toInt).toNat < N from (by first | omega | decide | (simp only [Int32.le_iff_toInt_le, Int32.lt_iff_toInt_lt, ti_add, ti_sub, ti_mul, Int32.reduceToInt] at *; omega)))
    obtain ⟨x7_3, x8_3, x9_3, σ3⟩ := t
    have hI : Tr [] σ0 σ3 ∧ (0 ≤ x9_3.toInt ∧ 0 ≤ x7_3.toInt ∧ x7_3.toInt ≤ 64) := hI
    obtain ⟨hT, hI3⟩ := hI
    rw [F_X3_gatherParts_54.eq_1]
    refine ok_if (fun hc4 => ?_) (fun hc4 => ?_)
    · exact ok_some ⟨hT, (show 0 ≤ x7_3.toInt ∧ x7_3.toInt ≤ 64 from by first | omega | decide | (simp only [Int32.le_iff_toInt_le, Int32.lt_iff_toInt_lt, ti_add, ti_sub, ti_mul, Int32.reduceToInt] at *; omega))⟩
    · refine ok_if (fun hc5 => ?_) (fun hc5 => ?_)
      · rw [J_X3_gatherParts_100.eq_1]
        refine ok_if (fun hc6 => ?_) (fun hc6 => ?_)
        · exact ok_some ⟨hT, (show 0 ≤ x7_3.toInt ∧ x7_3.toInt ≤ 64 from by first | omega | decide | (simp only [Int32.le_iff_toInt_le, Int32.lt_iff_toInt_lt, ti_add, ti_sub, ti_mul, Int32.reduceToInt] at *; omega))⟩
        · exact ih54_3 (x7_3, (x8_3 - x3) &&& x3, x9_3 + 1, σ3) (show Tr [] σ0 σ3 ∧ (0 ≤ (x9_3 + 1).toInt ∧ 0 ≤ x7_3.toInt ∧ x7_3.toInt ≤ 64) from ⟨hT, (by first | omega | decide | (simp only [Int32.le_iff_toInt_le, Int32.lt_iff_toInt_lt, ti_add, ti_sub, ti_mul, Int32.reduceToInt] at *; omega))⟩) (show (64 - (x9_3 + 1).toInt).toNat < (64 - x9_3.toInt).toNat from (by first | omega | decide | (simp only [Int32.le_iff_toInt_le, Int32.lt_iff_toInt_lt, ti_add, ti_sub, ti_mul, Int32.reduceToInt] at *; omega)))
      · refine ok_gC rfl ?_
        refine ok_zbT (Q := fun V σ => True) hT (s_X3_isGathered hN (hR.tr hT) ) (fun _ h9 => absurd h9 List.not_mem_nil) (fun v7 σ8 hOσ8 hT hqv7 => ?_)
        refine ok_if (fun hc9 => ?_) (fun hc9 => ?_)
        · refine ok_gR (v := 121) hT rfl (hR 120 0 rfl) ?_
          refine ok_sJ hT rfl (by first | omega | decide | (simp only [Int32.le_iff_toInt_le, Int32.lt_iff_toInt_lt, ti_add, ti_sub, ti_mul, Int32.reduceToInt] at *; omega)) (by first | omega | decide | (simp only [Int32.le_iff_toInt_le, Int32.lt_iff_toInt_lt, ti_add, ti_sub, ti_mul, Int32.reduceToInt] at *; omega)) (fun σ11 eσ11 hOσ11 hT => ?_)
          rw [J_X3_gatherParts_100.eq_1]
          refine ok_if (fun hc12 => ?_) (fun hc12 => ?_)
          · exact ok_some ⟨hT, (show 0 ≤ (x7_3 + 1).toInt ∧ (x7_3 + 1).toInt ≤ 64 from by first | omega | decide | (simp only [Int32.le_iff_toInt_le, Int32.lt_iff_toInt_lt, ti_add, ti_sub, ti_mul, Int32.reduceToInt] at *; omega))⟩
          · exact ih54_3 (x7_3 + 1, (x8_3 - x3) &&& x3, x9_3 + 1, σ11) (show Tr [] σ0 σ11 ∧ (0 ≤ (x9_3 + 1).toInt ∧ 0 ≤ (x7_3 + 1).toInt ∧ (x7_3 + 1).toInt ≤ 64) from ⟨hT, (by first | omega | decide | (simp only [Int32.le_iff_toInt_le, Int32.lt_iff_toInt_lt, ti_add, ti_sub, ti_mul, Int32.reduceToInt] at *; omega))⟩) (show (64 - (x9_3 + 1).toInt).toNat < (64 - x9_3.toInt).toNat from (by first | omega | decide | (simp only [Int32.le_iff_toInt_le, Int32.lt_iff_toInt_lt, ti_add, ti_sub, ti_mul, Int32.reduceToInt] at *; omega)))
        · rw [J_X3_gatherParts_100.eq_1]
          refine ok_if (fun hc13 => ?_) (fun hc13 => ?_)
          · exact ok_some ⟨hT, (show 0 ≤ x7_3.toInt ∧ x7_3.toInt ≤ 64 from by first | omega | decide | (simp only [Int32.le_iff_toInt_le, Int32.lt_iff_toInt_lt, ti_add, ti_sub, ti_mul, Int32.reduceToInt] at *; omega))⟩
          · exact ih54_3 (x7_3, (x8_3 - x3) &&& x3, x9_3 + 1, σ8) (show Tr [] σ0 σ8 ∧ (0 ≤ (x9_3 + 1).toInt ∧ 0 ≤ x7_3.toInt ∧ x7_3.toInt ≤ 64) from ⟨hT, (by first | omega | decide | (simp only [Int32.le_iff_toInt_le, Int32.lt_iff_toInt_lt, ti_add, ti_sub, ti_mul, Int32.reduceToInt] at *; omega))⟩) (show (64 - (x9_3 + 1).toInt).toNat < (64 - x9_3.toInt).toNat from (by first | omega | decide | (simp only [Int32.le_iff_toInt_le, Int32.lt_iff_toInt_lt, ti_add, ti_sub, ti_mul, Int32.reduceToInt] at *; omega)))
  · refine ok_if (fun hc14 => ?_) (fun hc14 => ?_)
    · exact ih6_1 (x5_1, x7_1 + 1, σ1) (show Tr [] σ0 σ1 ∧ (0 ≤ (x7_1 + 1).toInt) from ⟨hT, (by first | omega | decide | (simp only [Int32.le_iff_toInt_le, Int32.lt_iff_toInt_lt, ti_add, ti_sub, ti_mul, Int32.reduceToInt] at *; omega))⟩) (show (6 - (x7_1 + 1).toInt).toNat < (6 - x7_1.toInt).toNat from (by first | omega | decide | (simp only [Int32.le_iff_toInt_le, Int32.lt_iff_toInt_lt, ti_add, ti_sub, ti_mul, Int32.reduceToInt] at *; omega)))
    · exact ih6_1 (x5_1 ||| (zsl x5_1 ((1 : Int32) <<< (x7_1 &&& 31))), x7_1 + 1, σ1) (show Tr [] σ0 σ1 ∧ (0 ≤ (x7_1 + 1).toInt) from ⟨hT, (by first | omega | decide | (simp only [Int32.le_iff_toInt_le, Int32.lt_iff_toInt_lt, ti_add, ti_sub, ti_mul, Int32.reduceToInt] at *; omega))⟩) (show (6 - (x7_1 + 1).toInt).toNat < (6 - x7_1.toInt).toNat from (by first | omega | decide | (simp only [Int32.le_iff_toInt_le, Int32.lt_iff_toInt_lt, ti_add, ti_sub, ti_mul, Int32.reduceToInt] at *; omega)))

set_option maxHeartbeats 4000000 in
set_option maxRecDepth 100000 in
theorem s_X3_fewest {N : Nat} (hN : 1048576 ≤ N)  {σ0 : zS}  (hR : RF σ0.2.2)  : Ok (f_X3_fewest N 120 σ0) (fun r => Tr [] σ0 r.2 ∧ (True)) := by
  have hT : Tr [] σ0 σ0 := Tr.rf
  rw [f_X3_fewest.eq_1]
  refine ok_gR (v := 122) hT rfl (hR 120 1 rfl) ?_
  refine ok_aIn rfl (by first | omega | decide | (simp only [Int32.le_iff_toInt_le, Int32.lt_iff_toInt_lt, ti_add, ti_sub, ti_mul, Int32.reduceToInt] at *; omega)) (by first | omega | decide | (simp only [Int32.le_iff_toInt_le, Int32.lt_iff_toInt_lt, ti_add, ti_sub, ti_mul, Int32.reduceToInt] at *; omega)) (fun v2 ev2 => ?_)
  exact ok_some ⟨hT, trivial⟩

set_option maxHeartbeats 4000000 in
set_option maxRecDepth 100000 in
theorem s_X3_nameAt {N : Nat} (hN : 1048576 ≤ N) {x1 : Int32} {σ0 : zS}  (hR : RF σ0.2.2)  : Ok (f_X3_nameAt N 120 x1 σ0) (fun r => Tr [] σ0 r.2 ∧ (True)) := by
  have hT : Tr [] σ0 σ0 := Tr.rf
  rw [f_X3_nameAt.eq_1]
  refine ok_lp (fun t : Int32 × Int32 × zS => Tr [] σ0 (t.2.2) ∧ (0 ≤ (t.2.1).toInt)) (fun t : Int32 × Int32 × zS => (6 - (t.2.1).toInt).toNat) (fun again1 t hI ih4_1 => ?_) N _ (show Tr [] σ0 σ0 ∧ (0 ≤ (0 : Int32).toInt) from ⟨hT, (by first | omega | decide | (simp only [Int32.le_iff_toInt_le, Int32.lt_iff_toInt_lt, ti_add, ti_sub, ti_mul, Int32.reduceToInt] at *; omega))⟩) (show (6 - (0 : Int32).toInt).toNat < N from (by first | omega | decide | (simp only [Int32.le_iff_toInt_le, Int32.lt_iff_toInt_lt, ti_add, ti_sub, ti_mul, Int32.reduceToInt] at *; omega)))
  obtain ⟨x2_1, x3_1, σ1⟩ := t
  have hI : Tr [] σ0 σ1 ∧ (0 ≤ x3_1.toInt) := hI
  obtain ⟨hT, hI1⟩ := hI
  rw [F_X3_nameAt_4.eq_1]
  refine ok_if (fun hc2 => ?_) (fun hc2 => ?_)
  · refine ok_gR (v := 123) hT rfl (hR 120 2 rfl) ?_
    refine ok_aIn rfl (by exact (ti_and0 x2_1 (m := 63) (by decide)).1) (by exact Int.lt_of_le_of_lt (ti_and0 x2_1 (m := 63) (by decide)).2 (by decide)) (fun v4 ev4 => ?_)
    exact ok_some ⟨hT, trivial⟩
  · refine ok_if (fun hc5 => ?_) (fun hc5 => ?_)
    · refine ok_gR (v := 123) hT rfl (hR 120 2 rfl) ?_
      refine ok_aIn rfl (by exact (ti_and0 x2_1 (m := 63) (by decide)).1) (by exact Int.lt_of_le_of_lt (ti_and0 x2_1 (m := 63) (by decide)).2 (by decide)) (fun v7 ev7 => ?_)
      exact ok_some ⟨hT, trivial⟩
    · refine ok_gR (v := 123) hT rfl (hR 120 2 rfl) ?_
      refine ok_aIn rfl (by exact (ti_and0 x2_1 (m := 63) (by decide)).1) (by exact Int.lt_of_le_of_lt (ti_and0 x2_1 (m := 63) (by decide)).2 (by decide)) (fun v9 ev9 => ?_)
      exact ih4_1 (x2_1 ||| ((1 : Int32) <<< (v9 &&& 31)), x3_1 + 1, σ1) (show Tr [] σ0 σ1 ∧ (0 ≤ (x3_1 + 1).toInt) from ⟨hT, (by first | omega | decide | (simp only [Int32.le_iff_toInt_le, Int32.lt_iff_toInt_lt, ti_add, ti_sub, ti_mul, Int32.reduceToInt] at *; omega))⟩) (show (6 - (x3_1 + 1).toInt).toNat < (6 - x3_1.toInt).toNat from (by first | omega | decide | (simp only [Int32.le_iff_toInt_le, Int32.lt_iff_toInt_lt, ti_add, ti_sub, ti_mul, Int32.reduceToInt] at *; omega)))

set_option maxHeartbeats 4000000 in
set_option maxRecDepth 100000 in
theorem s_X3_weighAll {N : Nat} (hN : 1048576 ≤ N) {x1 : Nat} {x2 : Int32} {σ0 : zS}  (hR : RF σ0.2.2) (h_x1 : (zKd x1).1 = 2) : Ok (f_X3_weighAll N 120 x1 x2 σ0) (fun r => Tr [122, 123] σ0 r.2 ∧ (True)) := by
  have hT : Tr [122, 123] σ0 σ0 := Tr.rf
  have q0 := ti_one6 (ti_mm6 x2).1 (ti_mm6 x2).2
  rw [f_X3_weighAll.eq_1]
  refine ok_gR (v := 122) hT rfl (hR 120 1 rfl) ?_
  refine ok_s14 hT rfl (by decide) (by first | omega | decide | (simp only [Int32.le_iff_toInt_le, Int32.lt_iff_toInt_lt, ti_add, ti_sub, ti_mul, Int32.reduceToInt] at *; omega)) (by first | omega | decide | (simp only [Int32.le_iff_toInt_le, Int32.lt_iff_toInt_lt, ti_add, ti_sub, ti_mul, Int32.reduceToInt] at *; omega)) (fun σ2 eσ2 hOσ2 hT => ?_)
  refine ok_lp (fun t : Int32 × zS => Tr [122, 123] σ0 (t.2) ∧ ((t.1).toInt ≤ 62)) (fun t : Int32 × zS => ((t.1).toInt + 1).toNat) (fun again3 t hI ih27_3 => ?_) N _ (show Tr [122, 123] σ0 σ2 ∧ (((((1 : Int32) <<< ((zmax 0 (zmin 6 x2)) &&& 31)) - 1) - 1).toInt ≤ 62) from ⟨hT, (by first | omega | decide | (simp only [Int32.le_iff_toInt_le, Int32.lt_iff_toInt_lt, ti_add, ti_sub, ti_mul, Int32.reduceToInt] at *; omega))⟩) (show (((((1 : Int32) <<< ((zmax 0 (zmin 6 x2)) &&& 31)) - 1) - 1).toInt + 1).toNat < N from (by first | omega | decide | (simp only [Int32.le_iff_toInt_le, Int32.lt_iff_toInt_lt, ti_add, ti_sub, ti_mul, Int32.reduceToInt] at *; omega)))
  obtain ⟨x4_3, σ3⟩ := t
  have hI : Tr [122, 123] σ0 σ3 ∧ (x4_3.toInt ≤ 62) := hI
  obtain ⟨hT, hI3⟩ := hI
  rw [F_X3_weighAll_27.eq_1]
  refine ok_if (fun hc4 => ?_) (fun hc4 => ?_)
  · exact ok_some ⟨hT, trivial⟩
  · refine ok_gR hT h_x1 (fam_R hR h_x1).1 ?_
    refine ok_aJ (fam_R hR h_x1).2 (by first | omega | decide | (simp only [Int32.le_iff_toInt_le, Int32.lt_iff_toInt_lt, ti_add, ti_sub, ti_mul, Int32.reduceToInt] at *; omega)) (by first | omega | decide | (simp only [Int32.le_iff_toInt_le, Int32.lt_iff_toInt_lt, ti_add, ti_sub, ti_mul, Int32.reduceToInt] at *; omega)) ?_
    generalize σ3.2.1 (x1 + 1) (Int32.toNatClampNeg (0)) = v6
    refine ok_gC rfl ?_
    refine ok_zbT (Q := fun V σ => 0 ≤ V.toInt ∧ V.toInt ≤ 64) hT (s_X3_gatherParts hN (hR.tr hT) ) (fun _ h9 => absurd h9 List.not_mem_nil) (fun v7 σ8 hOσ8 hT hqv7 => ?_)
    have hqv7 : 0 ≤ v7.toInt ∧ v7.toInt ≤ 64 := hqv7
    refine ok_gR (v := 122) hT rfl (hR 120 1 rfl) ?_
    refine ok_s14 hT rfl (by decide) (by first | omega | decide | (simp only [Int32.le_iff_toInt_le, Int32.lt_iff_toInt_lt, ti_add, ti_sub, ti_mul, Int32.reduceToInt] at *; omega)) (by first | omega | decide | (simp only [Int32.le_iff_toInt_le, Int32.lt_iff_toInt_lt, ti_add, ti_sub, ti_mul, Int32.reduceToInt] at *; omega)) (fun σ10 eσ10 hOσ10 hT => ?_)
    refine ok_lp (fun t : Int32 × zS => Tr [122, 123] σ0 (t.2) ∧ (0 ≤ (t.1).toInt)) (fun t : Int32 × zS => (6 - (t.1).toInt).toNat) (fun again11 t hI ih59_11 => ?_) N _ (show Tr [122, 123] σ0 σ10 ∧ (0 ≤ (0 : Int32).toInt) from ⟨hT, (by first | omega | decide | (simp only [Int32.le_iff_toInt_le, Int32.lt_iff_toInt_lt, ti_add, ti_sub, ti_mul, Int32.reduceToInt] at *; omega))⟩) (show (6 - (0 : Int32).toInt).toNat < N from (by first | omega | decide | (simp only [Int32.le_iff_toInt_le, Int32.lt_iff_toInt_lt, ti_add, ti_sub, ti_mul, Int32.reduceToInt] at *; omega)))
    obtain ⟨x6_11, σ11⟩ := t
    have hI : Tr [122, 123] σ0 σ11 ∧ (0 ≤ x6_11.toInt) := hI
    obtain ⟨hT, hI11⟩ := hI
    rw [F_X3_weighAll_59.eq_1]
    refine ok_if (fun hc12 => ?_) (fun hc12 => ?_)
    · exact ih27_3 (x4_3 + (-1), σ11) (show Tr [122, 123] σ0 σ11 ∧ ((x4_3 + (-1)).toInt ≤ 62) from ⟨hT, (by first | omega | decide | (simp only [Int32.le_iff_toInt_le, Int32.lt_iff_toInt_lt, ti_add, ti_sub, ti_mul, Int32.reduceToInt] at *; omega))⟩) (show ((x4_3 + (-1)).toInt + 1).toNat < (x4_3.toInt + 1).toNat from (by first | omega | decide | (simp only [Int32.le_iff_toInt_le, Int32.lt_iff_toInt_lt, ti_add, ti_sub, ti_mul, Int32.reduceToInt] at *; omega)))
    · refine ok_if (fun hc13 => ?_) (fun hc13 => ?_)
      · exact ih27_3 (x4_3 + (-1), σ11) (show Tr [122, 123] σ0 σ11 ∧ ((x4_3 + (-1)).toInt ≤ 62) from ⟨hT, (by first | omega | decide | (simp only [Int32.le_iff_toInt_le, Int32.lt_iff_toInt_lt, ti_add, ti_sub, ti_mul, Int32.reduceToInt] at *; omega))⟩) (show ((x4_3 + (-1)).toInt + 1).toNat < (x4_3.toInt + 1).toNat from (by first | omega | decide | (simp only [Int32.le_iff_toInt_le, Int32.lt_iff_toInt_lt, ti_add, ti_sub, ti_mul, Int32.reduceToInt] at *; omega)))
      · refine ok_if (fun hc14 => ?_) (fun hc14 => ?_)
        · have q5 := ti_one5 (x := x6_11) (by simp only [Int32.le_iff_toInt_le, Int32.lt_iff_toInt_lt, Int32.reduceToInt] at *; omega) (by simp only [Int32.le_iff_toInt_le, Int32.lt_iff_toInt_lt, Int32.reduceToInt] at *; omega)
          have q6 := ti_or (a := x4_3) (n := 6) (by decide) (by simp only [Int32.le_iff_toInt_le, Int32.lt_iff_toInt_lt, Int32.reduceToInt] at *; omega) (by simp only [Int32.le_iff_toInt_le, Int32.lt_iff_toInt_lt, Int32.reduceToInt] at *; omega) q5.1 q5.2
          refine ok_gC rfl ?_
          refine ok_zbT (Q := fun V σ => True) hT (s_X3_partsWith hN (hR.tr hT) ) (fun _ h9 => absurd h9 List.not_mem_nil) (fun v15 σ16 hOσ16 hT hqv15 => ?_)
          refine ok_gR (v := 122) hT rfl (hR 120 1 rfl) ?_
          refine ok_aIn rfl (by first | omega | decide | (simp only [Int32.le_iff_toInt_le, Int32.lt_iff_toInt_lt, ti_add, ti_sub, ti_mul, Int32.reduceToInt] at *; omega)) (by first | omega | decide | (simp only [Int32.le_iff_toInt_le, Int32.lt_iff_toInt_lt, ti_add, ti_sub, ti_mul, Int32.reduceToInt] at *; omega)) (fun v18 ev18 => ?_)
          refine ok_gR (v := 122) hT rfl (hR 120 1 rfl) ?_
          refine ok_aIn rfl (by first | omega | decide | (simp only [Int32.le_iff_toInt_le, Int32.lt_iff_toInt_lt, ti_add, ti_sub, ti_mul, Int32.reduceToInt] at *; omega)) (by first | omega | decide | (simp only [Int32.le_iff_toInt_le, Int32.lt_iff_toInt_lt, ti_add, ti_sub, ti_mul, Int32.reduceToInt] at *; omega)) (fun v20 ev20 => ?_)
          refine ok_if (fun hc21 => ?_) (fun hc21 => ?_)
          · exact ih59_11 (x6_11 + 1, σ16) (show Tr [122, 123] σ0 σ16 ∧ (0 ≤ (x6_11 + 1).toInt) from ⟨hT, (by first | omega | decide | (simp only [Int32.le_iff_toInt_le, Int32.lt_iff_toInt_lt, ti_add, ti_sub, ti_mul, Int32.reduceToInt] at *; omega))⟩) (show (6 - (x6_11 + 1).toInt).toNat < (6 - x6_11.toInt).toNat from (by first | omega | decide | (simp only [Int32.le_iff_toInt_le, Int32.lt_iff_toInt_lt, ti_add, ti_sub, ti_mul, Int32.reduceToInt] at *; omega)))
          · refine ok_gR (v := 122) hT rfl (hR 120 1 rfl) ?_
            refine ok_s14 hT rfl (by decide) (by first | omega | decide | (simp only [Int32.le_iff_toInt_le, Int32.lt_iff_toInt_lt, ti_add, ti_sub, ti_mul, Int32.reduceToInt] at *; omega)) (by first | omega | decide | (simp only [Int32.le_iff_toInt_le, Int32.lt_iff_toInt_lt, ti_add, ti_sub, ti_mul, Int32.reduceToInt] at *; omega)) (fun σ23 eσ23 hOσ23 hT => ?_)
            refine ok_gR (v := 123) hT rfl (hR 120 2 rfl) ?_
            refine ok_s14 hT rfl (by decide) (by first | omega | decide | (simp only [Int32.le_iff_toInt_le, Int32.lt_iff_toInt_lt, ti_add, ti_sub, ti_mul, Int32.reduceToInt] at *; omega)) (by first | omega | decide | (simp only [Int32.le_iff_toInt_le, Int32.lt_iff_toInt_lt, ti_add, ti_sub, ti_mul, Int32.reduceToInt] at *; omega)) (fun σ25 eσ25 hOσ25 hT => ?_)
            exact ih59_11 (x6_11 + 1, σ25) (show Tr [122, 123] σ0 σ25 ∧ (0 ≤ (x6_11 + 1).toInt) from ⟨hT, (by first | omega | decide | (simp only [Int32.le_iff_toInt_le, Int32.lt_iff_toInt_lt, ti_add, ti_sub, ti_mul, Int32.reduceToInt] at *; omega))⟩) (show (6 - (x6_11 + 1).toInt).toNat < (6 - x6_11.toInt).toNat from (by first | omega | decide | (simp only [Int32.le_iff_toInt_le, Int32.lt_iff_toInt_lt, ti_add, ti_sub, ti_mul, Int32.reduceToInt] at *; omega)))
        · exact ih59_11 (x6_11 + 1, σ11) (show Tr [122, 123] σ0 σ11 ∧ (0 ≤ (x6_11 + 1).toInt) from ⟨hT, (by first | omega | decide | (simp only [Int32.le_iff_toInt_le, Int32.lt_iff_toInt_lt, ti_add, ti_sub, ti_mul, Int32.reduceToInt] at *; omega))⟩) (show (6 - (x6_11 + 1).toInt).toNat < (6 - x6_11.toInt).toNat from (by first | omega | decide | (simp only [Int32.le_iff_toInt_le, Int32.lt_iff_toInt_lt, ti_add, ti_sub, ti_mul, Int32.reduceToInt] at *; omega)))

set_option maxHeartbeats 4000000 in
set_option maxRecDepth 100000 in
theorem s_X3_siftAll_2_111 {N : Nat} (hN : 1048576 ≤ N) {x2 : Nat} {σ0 : zS}  (hR : RF σ0.2.2) (h_x2 : (zKd x2).1 = 2) (hu : 2 ≤ (σ0.1 111 8).toInt ∧ (σ0.1 111 8).toInt ≤ 1600) (hn : 0 ≤ (σ0.1 2 0).toInt ∧ (σ0.1 2 0).toInt ≤ 10) : Ok (f_X3_siftAll N 120 2 x2 111 σ0) (fun r => Tr [6, 111, 112, 113, 114, 115, 116, 117, 118, 119] σ0 r.2 ∧ (2 ≤ (r.2.1 111 8).toInt ∧ (r.2.1 111 8).toInt ≤ 1600)) := by
  have hT : Tr [6, 111, 112, 113, 114, 115, 116, 117, 118, 119] σ0 σ0 := Tr.rf
  rw [f_X3_siftAll.eq_1]
  refine ok_lp (fun t : Int32 × Int32 × zS => Tr [6, 111, 112, 113, 114, 115, 116, 117, 118, 119] σ0 (t.2.2) ∧ (0 ≤ (t.2.1).toInt) ∧ (2 ≤ ((t.2.2).1 111 8).toInt ∧ ((t.2.2).1 111 8).toInt ≤ 1600)) (fun t : Int32 × Int32 × zS => (10 - (t.2.1).toInt).toNat) (fun again1 t hI ih6_1 => ?_) N _ (show Tr [6, 111, 112, 113, 114, 115, 116, 117, 118, 119] σ0 σ0 ∧ (0 ≤ (0 : Int32).toInt) ∧ (2 ≤ (σ0.1 111 8).toInt ∧ (σ0.1 111 8).toInt ≤ 1600) from ⟨hT, (by first | omega | decide | (simp only [Int32.le_iff_toInt_le, Int32.lt_iff_toInt_lt, ti_add, ti_sub, ti_mul, Int32.reduceToInt] at *; omega)), hu⟩) (show (10 - (0 : Int32).toInt).toNat < N from (by first | omega | decide | (simp only [Int32.le_iff_toInt_le, Int32.lt_iff_toInt_lt, ti_add, ti_sub, ti_mul, Int32.reduceToInt] at *; omega)))
  obtain ⟨x4_1, x5_1, σ1⟩ := t
  have hI : Tr [6, 111, 112, 113, 114, 115, 116, 117, 118, 119] σ0 σ1 ∧ (0 ≤ x5_1.toInt) ∧ (2 ≤ (σ1.1 111 8).toInt ∧ (σ1.1 111 8).toInt ≤ 1600) := hI
  obtain ⟨hT, hI1, hu⟩ := hI
  rw [F_X3_siftAll_6.eq_1]
  refine ok_gI0 hT rfl (by decide) ?_
  refine ok_if (fun hc3 => ?_) (fun hc3 => ?_)
  · exact ok_some ⟨hT, (show 2 ≤ (σ1.1 111 8).toInt ∧ (σ1.1 111 8).toInt ≤ 1600 from by exact hu)⟩
  · refine ok_if (fun hc4 => ?_) (fun hc4 => ?_)
    · exact ok_some ⟨hT, (show 2 ≤ (σ1.1 111 8).toInt ∧ (σ1.1 111 8).toInt ≤ 1600 from by exact hu)⟩
    · refine ok_lp (fun t : Int32 × Int32 × Int32 × zS => Tr [6, 111, 112, 113, 114, 115, 116, 117, 118, 119] σ0 (t.2.2.2) ∧ (0 ≤ (t.2.2.1).toInt) ∧ (2 ≤ ((t.2.2.2).1 111 8).toInt ∧ ((t.2.2.2).1 111 8).toInt ≤ 1600)) (fun t : Int32 × Int32 × Int32 × zS => (10 - (t.2.2.1).toInt).toNat) (fun again5 t hI ih32_5 => ?_) N _ (show Tr [6, 111, 112, 113, 114, 115, 116, 117, 118, 119] σ0 σ1 ∧ (0 ≤ (0 : Int32).toInt) ∧ (2 ≤ (σ1.1 111 8).toInt ∧ (σ1.1 111 8).toInt ≤ 1600) from ⟨hT, (by first | omega | decide | (simp only [Int32.le_iff_toInt_le, Int32.lt_iff_toInt_lt, ti_add, ti_sub, ti_mul, Int32.reduceToInt] at *; omega)), hu⟩) (show (10 - (0 : Int32).toInt).toNat < N from (by first | omega | decide | (simp only [Int32.le_iff_toInt_le, Int32.lt_iff_toInt_lt, ti_add, ti_sub, ti_mul, Int32.reduceToInt] at *; omega)))
      obtain ⟨x4_5, x6_5, x7_5, σ5⟩ := t
      have hI : Tr [6, 111, 112, 113, 114, 115, 116, 117, 118, 119] σ0 σ5 ∧ (0 ≤ x7_5.toInt) ∧ (2 ≤ (σ5.1 111 8).toInt ∧ (σ5.1 111 8).toInt ≤ 1600) := hI
      obtain ⟨hT, hI5, hu⟩ := hI
      rw [F_X3_siftAll_32.eq_1]
      refine ok_gI0 hT rfl (by decide) ?_
      refine ok_if (fun hc7 => ?_) (fun hc7 => ?_)
      · refine ok_gC rfl ?_
        refine ok_zbT (Q := fun V σ => True) hT (s_X10_moveName_2 hN (hR.tr hT) ) (by decide) (fun v8 σ9 hOσ9 hT hqv8 => ?_)
        have hu : 2 ≤ (σ9.1 111 8).toInt ∧ (σ9.1 111 8).toInt ≤ 1600 := by rw [hOσ9.2 111 (by decide)] <;> exact hu
        exact ih6_1 (x4_5, x5_1 + 1, σ9) (show Tr [6, 111, 112, 113, 114, 115, 116, 117, 118, 119] σ0 σ9 ∧ (0 ≤ (x5_1 + 1).toInt) ∧ (2 ≤ (σ9.1 111 8).toInt ∧ (σ9.1 111 8).toInt ≤ 1600) from ⟨hT, (by first | omega | decide | (simp only [Int32.le_iff_toInt_le, Int32.lt_iff_toInt_lt, ti_add, ti_sub, ti_mul, Int32.reduceToInt] at *; omega)), hu⟩) (show (10 - (x5_1 + 1).toInt).toNat < (10 - x5_1.toInt).toNat from (by first | omega | decide | (simp only [Int32.le_iff_toInt_le, Int32.lt_iff_toInt_lt, ti_add, ti_sub, ti_mul, Int32.reduceToInt] at *; omega)))
      · refine ok_if (fun hc10 => ?_) (fun hc10 => ?_)
        · refine ok_gC rfl ?_
          refine ok_zbT (Q := fun V σ => True) hT (s_X10_moveName_2 hN (hR.tr hT) ) (by decide) (fun v11 σ12 hOσ12 hT hqv11 => ?_)
          have hu : 2 ≤ (σ12.1 111 8).toInt ∧ (σ12.1 111 8).toInt ≤ 1600 := by rw [hOσ12.2 111 (by decide)] <;> exact hu
          exact ih6_1 (x4_5, x5_1 + 1, σ12) (show Tr [6, 111, 112, 113, 114, 115, 116, 117, 118, 119] σ0 σ12 ∧ (0 ≤ (x5_1 + 1).toInt) ∧ (2 ≤ (σ12.1 111 8).toInt ∧ (σ12.1 111 8).toInt ≤ 1600) from ⟨hT, (by first | omega | decide | (simp only [Int32.le_iff_toInt_le, Int32.lt_iff_toInt_lt, ti_add, ti_sub, ti_mul, Int32.reduceToInt] at *; omega)), hu⟩) (show (10 - (x5_1 + 1).toInt).toNat < (10 - x5_1.toInt).toNat from (by first | omega | decide | (simp only [Int32.le_iff_toInt_le, Int32.lt_iff_toInt_lt, ti_add, ti_sub, ti_mul, Int32.reduceToInt] at *; omega)))
        · refine ok_gC rfl ?_
          refine ok_zbT (Q := fun V σ => True) hT (s_X10_moveName_2 hN (hR.tr hT) ) (by decide) (fun v13 σ14 hOσ14 hT hqv13 => ?_)
          have hu : 2 ≤ (σ14.1 111 8).toInt ∧ (σ14.1 111 8).toInt ≤ 1600 := by rw [hOσ14.2 111 (by decide)] <;> exact hu
          refine ok_gC rfl ?_
          refine ok_zbT (Q := fun V σ => 2 ≤ (σ.1 111 8).toInt ∧ (σ.1 111 8).toInt ≤ 1600) hT (s_X1_tallyOf_2 hN (hR.tr hT) h_x2 (by first | omega | decide | (simp only [Int32.le_iff_toInt_le, Int32.lt_iff_toInt_lt, ti_add, ti_sub, ti_mul, Int32.reduceToInt] at *; omega)) (by first | exact hn | (rw [hT.2 2 (by decide)]; exact hn))) (by decide) (fun v15 σ16 hOσ16 hT hqv15 => ?_)
          have hqv15 : 2 ≤ (σ16.1 111 8).toInt ∧ (σ16.1 111 8).toInt ≤ 1600 := hqv15
          have hu : 2 ≤ (σ16.1 111 8).toInt ∧ (σ16.1 111 8).toInt ≤ 1600 := hqv15
          refine ok_if (fun hc17 => ?_) (fun hc17 => ?_)
          · exact ih32_5 (x4_5, x6_5, x7_5 + 1, σ16) (show Tr [6, 111, 112, 113, 114, 115, 116, 117, 118, 119] σ0 σ16 ∧ (0 ≤ (x7_5 + 1).toInt) ∧ (2 ≤ (σ16.1 111 8).toInt ∧ (σ16.1 111 8).toInt ≤ 1600) from ⟨hT, (by first | omega | decide | (simp only [Int32.le_iff_toInt_le, Int32.lt_iff_toInt_lt, ti_add, ti_sub, ti_mul, Int32.reduceToInt] at *; omega)), hu⟩) (show (10 - (x7_5 + 1).toInt).toNat < (10 - x7_5.toInt).toNat from (by first | omega | decide | (simp only [Int32.le_iff_toInt_le, Int32.lt_iff_toInt_lt, ti_add, ti_sub, ti_mul, Int32.reduceToInt] at *; omega)))
          · exact ih32_5 (v15, x7_5, x7_5 + 1, σ16) (show Tr [6, 111, 112, 113, 114, 115, 116, 117, 118, 119] σ0 σ16 ∧ (0 ≤ (x7_5 + 1).toInt) ∧ (2 ≤ (σ16.1 111 8).toInt ∧ (σ16.1 111 8).toInt ≤ 1600) from ⟨hT, (by first | omega | decide | (simp only [Int32.le_iff_toInt_le, Int32.lt_iff_toInt_lt, ti_add, ti_sub, ti_mul, Int32.reduceToInt] at *; omega)), hu⟩) (show (10 - (x7_5 + 1).toInt).toNat < (10 - x7_5.toInt).toNat from (by first | omega | decide | (simp only [Int32.le_iff_toInt_le, Int32.lt_iff_toInt_lt, ti_add, ti_sub, ti_mul, Int32.reduceToInt] at *; omega)))

set_option maxHeartbeats 4000000 in
set_option maxRecDepth 100000 in
theorem s_X3_siftAll_28_111 {N : Nat} (hN : 1048576 ≤ N) {x2 : Nat} {σ0 : zS}  (hR : RF σ0.2.2) (h_x2 : (zKd x2).1 = 2) (hu : 2 ≤ (σ0.1 111 8).toInt ∧ (σ0.1 111 8).toInt ≤ 1600) (hn : 0 ≤ (σ0.1 28 0).toInt ∧ (σ0.1 28 0).toInt ≤ 10) : Ok (f_X3_siftAll N 120 28 x2 111 σ0) (fun r => Tr [32, 111, 112, 113, 114, 115, 116, 117, 118, 119] σ0 r.2 ∧ (2 ≤ (r.2.1 111 8).toInt ∧ (r.2.1 111 8).toInt ≤ 1600)) := by
  have hT : Tr [32, 111, 112, 113, 114, 115, 116, 117, 118, 119] σ0 σ0 := Tr.rf
  rw [f_X3_siftAll.eq_1]
  refine ok_lp (fun t : Int32 × Int32 × zS => Tr [32, 111, 112, 113, 114, 115, 116, 117, 118, 119] σ0 (t.2.2) ∧ (0 ≤ (t.2.1).toInt) ∧ (2 ≤ ((t.2.2).1 111 8).toInt ∧ ((t.2.2).1 111 8).toInt ≤ 1600)) (fun t : Int32 × Int32 × zS => (10 - (t.2.1).toInt).toNat) (fun again1 t hI ih6_1 => ?_) N _ (show Tr [32, 111, 112, 113, 114, 115, 116, 117, 118, 119] σ0 σ0 ∧ (0 ≤ (0 : Int32).toInt) ∧ (2 ≤ (σ0.1 111 8).toInt ∧ (σ0.1 111 8).toInt ≤ 1600) from ⟨hT, (by first | omega | decide | (simp only [Int32.le_iff_toInt_le, Int32.lt_iff_toInt_lt, ti_add, ti_sub, ti_mul, Int32.reduceToInt] at *; omega)), hu⟩) (show (10 - (0 : Int32).toInt).toNat < N from (by first | omega | decide | (simp only [Int32.le_iff_toInt_le, Int32.lt_iff_toInt_lt, ti_add, ti_sub, ti_mul, Int32.reduceToInt] at *; omega)))
  obtain ⟨x4_1, x5_1, σ1⟩ := t
  have hI : Tr [32, 111, 112, 113, 114, 115, 116, 117, 118, 119] σ0 σ1 ∧ (0 ≤ x5_1.toInt) ∧ (2 ≤ (σ1.1 111 8).toInt ∧ (σ1.1 111 8).toInt ≤ 1600) := hI
  obtain ⟨hT, hI1, hu⟩ := hI
  rw [F_X3_siftAll_6.eq_1]
  refine ok_gI0 hT rfl (by decide) ?_
  refine ok_if (fun hc3 => ?_) (fun hc3 => ?_)
  · exact ok_some ⟨hT, (show 2 ≤ (σ1.1 111 8).toInt ∧ (σ1.1 111 8).toInt ≤ 1600 from by exact hu)⟩
  · refine ok_if (fun hc4 => ?_) (fun hc4 => ?_)
    · exact ok_some ⟨hT, (show 2 ≤ (σ1.1 111 8).toInt ∧ (σ1.1 111 8).toInt ≤ 1600 from by exact hu)⟩
    · refine ok_lp (fun t : Int32 × Int32 × Int32 × zS => Tr [32, 111, 112, 113, 114, 115, 116, 117, 118, 119] σ0 (t.2.2.2) ∧ (0 ≤ (t.2.2.1).toInt) ∧ (2 ≤ ((t.2.2.2).1 111 8).toInt ∧ ((t.2.2.2).1 111 8).toInt ≤ 1600)) (fun t : Int32 × Int32 × Int32 × zS => (10 - (t.2.2.1).toInt).toNat) (fun again5 t hI ih32_5 => ?_) N _ (show Tr [32, 111, 112, 113, 114, 115, 116, 117, 118, 119] σ0 σ1 ∧ (0 ≤ (0 : Int32).toInt) ∧ (2 ≤ (σ1.1 111 8).toInt ∧ (σ1.1 111 8).toInt ≤ 1600) from ⟨hT, (by first | omega | decide | (simp only [Int32.le_iff_toInt_le, Int32.lt_iff_toInt_lt, ti_add, ti_sub, ti_mul, Int32.reduceToInt] at *; omega)), hu⟩) (show (10 - (0 : Int32).toInt).toNat < N from (by first | omega | decide | (simp only [Int32.le_iff_toInt_le, Int32.lt_iff_toInt_lt, ti_add, ti_sub, ti_mul, Int32.reduceToInt] at *; omega)))
      obtain ⟨x4_5, x6_5, x7_5, σ5⟩ := t
      have hI : Tr [32, 111, 112, 113, 114, 115, 116, 117, 118, 119] σ0 σ5 ∧ (0 ≤ x7_5.toInt) ∧ (2 ≤ (σ5.1 111 8).toInt ∧ (σ5.1 111 8).toInt ≤ 1600) := hI
      obtain ⟨hT, hI5, hu⟩ := hI
      rw [F_X3_siftAll_32.eq_1]
      refine ok_gI0 hT rfl (by decide) ?_
      refine ok_if (fun hc7 => ?_) (fun hc7 => ?_)
      · refine ok_gC rfl ?_
        refine ok_zbT (Q := fun V σ => True) hT (s_X10_moveName_28 hN (hR.tr hT) ) (by decide) (fun v8 σ9 hOσ9 hT hqv8 => ?_)
        have hu : 2 ≤ (σ9.1 111 8).toInt ∧ (σ9.1 111 8).toInt ≤ 1600 := by rw [hOσ9.2 111 (by decide)] <;> exact hu
        exact ih6_1 (x4_5, x5_1 + 1, σ9) (show Tr [32, 111, 112, 113, 114, 115, 116, 117, 118, 119] σ0 σ9 ∧ (0 ≤ (x5_1 + 1).toInt) ∧ (2 ≤ (σ9.1 111 8).toInt ∧ (σ9.1 111 8).toInt ≤ 1600) from ⟨hT, (by first | omega | decide | (simp only [Int32.le_iff_toInt_le, Int32.lt_iff_toInt_lt, ti_add, ti_sub, ti_mul, Int32.reduceToInt] at *; omega)), hu⟩) (show (10 - (x5_1 + 1).toInt).toNat < (10 - x5_1.toInt).toNat from (by first | omega | decide | (simp only [Int32.le_iff_toInt_le, Int32.lt_iff_toInt_lt, ti_add, ti_sub, ti_mul, Int32.reduceToInt] at *; omega)))
      · refine ok_if (fun hc10 => ?_) (fun hc10 => ?_)
        · refine ok_gC rfl ?_
          refine ok_zbT (Q := fun V σ => True) hT (s_X10_moveName_28 hN (hR.tr hT) ) (by decide) (fun v11 σ12 hOσ12 hT hqv11 => ?_)
          have hu : 2 ≤ (σ12.1 111 8).toInt ∧ (σ12.1 111 8).toInt ≤ 1600 := by rw [hOσ12.2 111 (by decide)] <;> exact hu
          exact ih6_1 (x4_5, x5_1 + 1, σ12) (show Tr [32, 111, 112, 113, 114, 115, 116, 117, 118, 119] σ0 σ12 ∧ (0 ≤ (x5_1 + 1).toInt) ∧ (2 ≤ (σ12.1 111 8).toInt ∧ (σ12.1 111 8).toInt ≤ 1600) from ⟨hT, (by first | omega | decide | (simp only [Int32.le_iff_toInt_le, Int32.lt_iff_toInt_lt, ti_add, ti_sub, ti_mul, Int32.reduceToInt] at *; omega)), hu⟩) (show (10 - (x5_1 + 1).toInt).toNat < (10 - x5_1.toInt).toNat from (by first | omega | decide | (simp only [Int32.le_iff_toInt_le, Int32.lt_iff_toInt_lt, ti_add, ti_sub, ti_mul, Int32.reduceToInt] at *; omega)))
        · refine ok_gC rfl ?_
          refine ok_zbT (Q := fun V σ => True) hT (s_X10_moveName_28 hN (hR.tr hT) ) (by decide) (fun v13 σ14 hOσ14 hT hqv13 => ?_)
          have hu : 2 ≤ (σ14.1 111 8).toInt ∧ (σ14.1 111 8).toInt ≤ 1600 := by rw [hOσ14.2 111 (by decide)] <;> exact hu
          refine ok_gC rfl ?_
          refine ok_zbT (Q := fun V σ => 2 ≤ (σ.1 111 8).toInt ∧ (σ.1 111 8).toInt ≤ 1600) hT (s_X1_tallyOf_28 hN (hR.tr hT) h_x2 (by first | omega | decide | (simp only [Int32.le_iff_toInt_le, Int32.lt_iff_toInt_lt, ti_add, ti_sub, ti_mul, Int32.reduceToInt] at *; omega)) (by first | exact hn | (rw [hT.2 28 (by decide)]; exact hn))) (by decide) (fun v15 σ16 hOσ16 hT hqv15 => ?_)
          have hqv15 : 2 ≤ (σ16.1 111 8).toInt ∧ (σ16.1 111 8).toInt ≤ 1600 := hqv15
          have hu : 2 ≤ (σ16.1 111 8).toInt ∧ (σ16.1 111 8).toInt ≤ 1600 := hqv15
          refine ok_if (fun hc17 => ?_) (fun hc17 => ?_)
          · exact ih32_5 (x4_5, x6_5, x7_5 + 1, σ16) (show Tr [32, 111, 112, 113, 114, 115, 116, 117, 118, 119] σ0 σ16 ∧ (0 ≤ (x7_5 + 1).toInt) ∧ (2 ≤ (σ16.1 111 8).toInt ∧ (σ16.1 111 8).toInt ≤ 1600) from ⟨hT, (by first | omega | decide | (simp only [Int32.le_iff_toInt_le, Int32.lt_iff_toInt_lt, ti_add, ti_sub, ti_mul, Int32.reduceToInt] at *; omega)), hu⟩) (show (10 - (x7_5 + 1).toInt).toNat < (10 - x7_5.toInt).toNat from (by first | omega | decide | (simp only [Int32.le_iff_toInt_le, Int32.lt_iff_toInt_lt, ti_add, ti_sub, ti_mul, Int32.reduceToInt] at *; omega)))
          · exact ih32_5 (v15, x7_5, x7_5 + 1, σ16) (show Tr [32, 111, 112, 113, 114, 115, 116, 117, 118, 119] σ0 σ16 ∧ (0 ≤ (x7_5 + 1).toInt) ∧ (2 ≤ (σ16.1 111 8).toInt ∧ (σ16.1 111 8).toInt ≤ 1600) from ⟨hT, (by first | omega | decide | (simp only [Int32.le_iff_toInt_le, Int32.lt_iff_toInt_lt, ti_add, ti_sub, ti_mul, Int32.reduceToInt] at *; omega)), hu⟩) (show (10 - (x7_5 + 1).toInt).toNat < (10 - x7_5.toInt).toNat from (by first | omega | decide | (simp only [Int32.le_iff_toInt_le, Int32.lt_iff_toInt_lt, ti_add, ti_sub, ti_mul, Int32.reduceToInt] at *; omega)))

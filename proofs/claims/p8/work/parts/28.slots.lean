set_option maxHeartbeats 4000000 in
set_option maxRecDepth 100000 in
theorem s_X9_isBare {N : Nat} (hN : 1048576 ≤ N) {x0 : Nat} {σ0 : zS}  (hR : RF σ0.2.2) (h_x0 : (zKd x0).1 = 9) : Ok (f_X9_isBare N x0 σ0) (fun r => Tr [] σ0 r.2 ∧ ((r.1 = 0 ∨ r.1 = 1) ∧ (r.1 = 0 → 0 ≤ (σ0.1 x0 2).toInt))) := by
  have hT : Tr [] σ0 σ0 := Tr.rf
  rw [f_X9_isBare.eq_1]
  refine ok_gI0 hT h_x0 List.not_mem_nil ?_
  refine ok_if (fun hc2 => ?_) (fun hc2 => ?_)
  · exact ok_rZ (Or.inl rfl) ⟨hT, (show ((0 : Int32) = 0 ∨ (0 : Int32) = 1) ∧ ((0 : Int32) = 0 → 0 ≤ (σ0.1 x0 2).toInt) from by first | exact ⟨Or.inl rfl, fun _ => by simp only [Int32.le_iff_toInt_le, Int32.lt_iff_toInt_lt, ti_add, ti_sub, ti_mul, Int32.reduceToInt] at *; omega⟩ | exact ⟨Or.inr rfl, fun h9 => absurd h9 (by decide)⟩)⟩
  · exact ok_rZ (Or.inr rfl) ⟨hT, (show ((1 : Int32) = 0 ∨ (1 : Int32) = 1) ∧ ((1 : Int32) = 0 → 0 ≤ (σ0.1 x0 2).toInt) from by first | exact ⟨Or.inl rfl, fun _ => by simp only [Int32.le_iff_toInt_le, Int32.lt_iff_toInt_lt, ti_add, ti_sub, ti_mul, Int32.reduceToInt] at *; omega⟩ | exact ⟨Or.inr rfl, fun h9 => absurd h9 (by decide)⟩)⟩

set_option maxHeartbeats 4000000 in
set_option maxRecDepth 100000 in
theorem s_X9_cut {N : Nat} (hN : 1048576 ≤ N) {x0 : Nat} {x1 : Int64} {σ0 : zS}  (hR : RF σ0.2.2) (h_x0 : (zKd x0).1 = 9) : Ok (f_X9_cut N x0 x1 σ0) (fun r => Tr [] σ0 r.2 ∧ (True)) := by
  have hT : Tr [] σ0 σ0 := Tr.rf
  rw [f_X9_cut.eq_1]
  refine ok_gI0 hT h_x0 List.not_mem_nil ?_
  refine ok_if (fun hc2 => ?_) (fun hc2 => ?_)
  · exact ok_some ⟨hT, trivial⟩
  refine ok_if (fun hc3 => ?_) (fun hc3 => ?_)
  · exact ok_some ⟨hT, trivial⟩
  refine ok_if (fun hc4 => ?_) (fun hc4 => ?_)
  · exact ok_some ⟨hT, trivial⟩
  exact ok_some ⟨hT, trivial⟩

set_option maxHeartbeats 4000000 in
set_option maxRecDepth 100000 in
theorem s_X9_spans {N : Nat} (hN : 1048576 ≤ N) {x0 : Nat} {x1 : Int32} {x2 : Int32} {σ0 : zS}  (hR : RF σ0.2.2) (h_x0 : (zKd x0).1 = 9) : Ok (f_X9_spans N x0 x1 x2 σ0) (fun r => Tr [] σ0 r.2 ∧ ((r.1 = 0 ∨ r.1 = 1) ∧ (¬ r.1 = 0 → 0 ≤ x1.toInt ∧ 0 ≤ x2.toInt ∧ x1.toInt + x2.toInt ≤ (σ0.1 x0 2).toInt))) := by
  have hT : Tr [] σ0 σ0 := Tr.rf
  rw [f_X9_spans.eq_1]
  refine ok_if (fun hc1 => ?_) (fun hc1 => ?_)
  · exact ok_rZ (Or.inl rfl) ⟨hT, (show ((0 : Int32) = 0 ∨ (0 : Int32) = 1) ∧ (¬ (0 : Int32) = 0 → 0 ≤ x1.toInt ∧ 0 ≤ x2.toInt ∧ x1.toInt + x2.toInt ≤ (σ0.1 x0 2).toInt) from by first | exact ⟨Or.inl rfl, fun h9 => absurd rfl h9⟩ | exact ⟨Or.inr rfl, fun _ => by simp only [Int32.le_iff_toInt_le, Int32.lt_iff_toInt_lt, ti_add, ti_sub, ti_mul, Int32.reduceToInt] at *; omega⟩)⟩
  · refine ok_if (fun hc2 => ?_) (fun hc2 => ?_)
    · exact ok_rZ (Or.inl rfl) ⟨hT, (show ((0 : Int32) = 0 ∨ (0 : Int32) = 1) ∧ (¬ (0 : Int32) = 0 → 0 ≤ x1.toInt ∧ 0 ≤ x2.toInt ∧ x1.toInt + x2.toInt ≤ (σ0.1 x0 2).toInt) from by first | exact ⟨Or.inl rfl, fun h9 => absurd rfl h9⟩ | exact ⟨Or.inr rfl, fun _ => by simp only [Int32.le_iff_toInt_le, Int32.lt_iff_toInt_lt, ti_add, ti_sub, ti_mul, Int32.reduceToInt] at *; omega⟩)⟩
    · refine ok_gI0 hT h_x0 List.not_mem_nil ?_
      refine ok_if (fun hc4 => ?_) (fun hc4 => ?_)
      · exact ok_rZ (Or.inl rfl) ⟨hT, (show ((0 : Int32) = 0 ∨ (0 : Int32) = 1) ∧ (¬ (0 : Int32) = 0 → 0 ≤ x1.toInt ∧ 0 ≤ x2.toInt ∧ x1.toInt + x2.toInt ≤ (σ0.1 x0 2).toInt) from by first | exact ⟨Or.inl rfl, fun h9 => absurd rfl h9⟩ | exact ⟨Or.inr rfl, fun _ => by simp only [Int32.le_iff_toInt_le, Int32.lt_iff_toInt_lt, ti_add, ti_sub, ti_mul, Int32.reduceToInt] at *; omega⟩)⟩
      · have q1 := spans_ok (by simp only [Int32.lt_iff_toInt_lt, Int32.reduceToInt] at *; omega) (by simp only [Int32.lt_iff_toInt_lt, Int32.reduceToInt] at *; omega) hc4
        exact ok_rZ (Or.inr rfl) ⟨hT, (show ((1 : Int32) = 0 ∨ (1 : Int32) = 1) ∧ (¬ (1 : Int32) = 0 → 0 ≤ x1.toInt ∧ 0 ≤ x2.toInt ∧ x1.toInt + x2.toInt ≤ (σ0.1 x0 2).toInt) from by first | exact ⟨Or.inl rfl, fun h9 => absurd rfl h9⟩ | exact ⟨Or.inr rfl, fun _ => by simp only [Int32.le_iff_toInt_le, Int32.lt_iff_toInt_lt, ti_add, ti_sub, ti_mul, Int32.reduceToInt] at *; omega⟩)⟩

set_option maxHeartbeats 4000000 in
set_option maxRecDepth 100000 in
theorem s_X9_start {N : Nat} (hN : 1048576 ≤ N) {x0 : Nat} {x1 : Int32} {x2 : Int32} {σ0 : zS}  (hR : RF σ0.2.2) (h_x0 : (zKd x0).1 = 9) (hL : SI σ0.1) : Ok (f_X9_start N x0 x1 x2 σ0) (fun r => Tr [210, 212, 214, 216] σ0 r.2 ∧ (SI r.2.1)) := by
  have hT : Tr [210, 212, 214, 216] σ0 σ0 := Tr.rf
  rw [f_X9_start.eq_1]
  refine ok_gR hT h_x0 (slot_R hR h_x0).1 ?_
  refine ok_zbT (Q := fun V σ => True) hT (s_J7_fill_d0a16 hN (hR.tr hT) (slot_R hR h_x0).2 (by decide)) (fun _ h9 => absurd h9 List.not_mem_nil) (fun v2 σ3 hOσ3 hT hqv2 => ?_)
  have hL : SI σ3.1 := SI.tr hOσ3 (by decide) (by decide) (by decide) (by decide) hL
  refine ok_pI hT h_x0 (slotMem h_x0) (fun σ4 eσ4 hOσ4 hT => ?_)
  have hL : SI σ4.1 := SI_p eσ4 (fun q => absurd q (by decide)) hL
  refine ok_pI hT h_x0 (slotMem h_x0) (fun σ5 eσ5 hOσ5 hT => ?_)
  have hL : SI σ5.1 := SI_p eσ5 (fun _ => by rw [ti_zmin]; simp only [Int32.reduceToInt]; split <;> omega) hL
  exact ok_some ⟨hT, (show SI σ5.1 from by exact hL)⟩

set_option maxHeartbeats 4000000 in
set_option maxRecDepth 100000 in
theorem s_X1_headOf {N : Nat} (hN : 1048576 ≤ N) {x0 : Int32} {x1 : Int32} {x2 : Int32} {σ0 : zS}  (hR : RF σ0.2.2)  : Ok (f_X1_headOf N x0 x1 x2 σ0) (fun r => Tr [] σ0 r.2 ∧ (0 ≤ r.1.toInt ∧ r.1.toInt ≤ 2047)) := by
  have hT : Tr [] σ0 σ0 := Tr.rf
  rw [f_X1_headOf.eq_1]
  exact ok_some ⟨hT, (show 0 ≤ ((((x2 * 613) + (x1 * 37)) + x0) &&& 2047).toInt ∧ ((((x2 * 613) + (x1 * 37)) + x0) &&& 2047).toInt ≤ 2047 from by exact ti_and0 _ (m := 2047) (by decide))⟩

set_option maxHeartbeats 4000000 in
set_option maxRecDepth 100000 in
theorem s_X1_tallyAt {N : Nat} (hN : 1048576 ≤ N) {x1 : Int32} {σ0 : zS}  (hR : RF σ0.2.2)  : Ok (f_X1_tallyAt N 111 x1 σ0) (fun r => Tr [] σ0 r.2 ∧ (True)) := by
  have hT : Tr [] σ0 σ0 := Tr.rf
  rw [f_X1_tallyAt.eq_1]
  refine ok_if (fun hc1 => ?_) (fun hc1 => ?_)
  · exact ok_some ⟨hT, trivial⟩
  · refine ok_if (fun hc2 => ?_) (fun hc2 => ?_)
    · exact ok_some ⟨hT, trivial⟩
    · refine ok_gR (v := 119) hT rfl (hR 111 7 rfl) ?_
      refine ok_aIn rfl (by first | omega | decide | (simp only [Int32.le_iff_toInt_le, Int32.lt_iff_toInt_lt, ti_add, ti_sub, ti_mul, Int32.reduceToInt] at *; omega)) (by first | omega | decide | (simp only [Int32.le_iff_toInt_le, Int32.lt_iff_toInt_lt, ti_add, ti_sub, ti_mul, Int32.reduceToInt] at *; omega)) (fun v4 ev4 => ?_)
      exact ok_some ⟨hT, trivial⟩

set_option maxHeartbeats 4000000 in
set_option maxRecDepth 100000 in
theorem s_X1_reset {N : Nat} (hN : 1048576 ≤ N)  {σ0 : zS}  (hR : RF σ0.2.2) (hu : 2 ≤ (σ0.1 111 8).toInt ∧ (σ0.1 111 8).toInt ≤ 1600) : Ok (f_X1_reset N 111 σ0) (fun r => Tr [111, 112, 119] σ0 r.2 ∧ (2 ≤ (r.2.1 111 8).toInt ∧ (r.2.1 111 8).toInt ≤ 1600)) := by
  have hT : Tr [111, 112, 119] σ0 σ0 := Tr.rf
  rw [f_X1_reset.eq_1]
  refine ok_lp (fun t : Int32 × zS => Tr [111, 112, 119] σ0 (t.2) ∧ (2 ≤ (t.1).toInt) ∧ (2 ≤ ((t.2).1 111 8).toInt ∧ ((t.2).1 111 8).toInt ≤ 1600)) (fun t : Int32 × zS => (1600 - (t.1).toInt).toNat) (fun again1 t hI ih2_1 => ?_) N _ (show Tr [111, 112, 119] σ0 σ0 ∧ (2 ≤ (2 : Int32).toInt) ∧ (2 ≤ (σ0.1 111 8).toInt ∧ (σ0.1 111 8).toInt ≤ 1600) from ⟨hT, (by first | omega | decide | (simp only [Int32.le_iff_toInt_le, Int32.lt_iff_toInt_lt, ti_add, ti_sub, ti_mul, Int32.reduceToInt] at *; omega)), hu⟩) (show (1600 - (2 : Int32).toInt).toNat < N from (by first | omega | decide | (simp only [Int32.le_iff_toInt_le, Int32.lt_iff_toInt_lt, ti_add, ti_sub, ti_mul, Int32.reduceToInt] at *; omega)))
  obtain ⟨x1_1, σ1⟩ := t
  have hI : Tr [111, 112, 119] σ0 σ1 ∧ (2 ≤ x1_1.toInt) ∧ (2 ≤ (σ1.1 111 8).toInt ∧ (σ1.1 111 8).toInt ≤ 1600) := hI
  obtain ⟨hT, hI1, hu⟩ := hI
  rw [F_X1_reset_2.eq_1]
  refine ok_gI rfl ?_
  refine ok_if (fun hc3 => ?_) (fun hc3 => ?_)
  · refine ok_gR (v := 119) hT rfl (hR 111 7 rfl) ?_
    refine ok_zbT (Q := fun V σ => True) hT (s_J7_fill_53178_119 hN (hR.tr hT) ) (by decide) (fun v5 σ6 hOσ6 hT hqv5 => ?_)
    have hu : 2 ≤ (σ6.1 111 8).toInt ∧ (σ6.1 111 8).toInt ≤ 1600 := by rw [hOσ6.2 111 (by decide)] <;> exact hu
    refine ok_pI hT rfl (by decide) (fun σ7 eσ7 hOσ7 hT => ?_)
    have hu : 2 ≤ (σ7.1 111 8).toInt ∧ (σ7.1 111 8).toInt ≤ 1600 := by rw [zI_atI eσ7]; decide
    exact ok_some ⟨hT, (show 2 ≤ (σ7.1 111 8).toInt ∧ (σ7.1 111 8).toInt ≤ 1600 from by exact hu)⟩
  · refine ok_gR (v := 112) hT rfl (hR 111 0 rfl) ?_
    refine ok_gR (v := 114) hT rfl (hR 111 2 rfl) ?_
    refine ok_aIn rfl (by first | omega | decide | (simp only [Int32.le_iff_toInt_le, Int32.lt_iff_toInt_lt, ti_add, ti_sub, ti_mul, Int32.reduceToInt] at *; omega)) (by first | omega | decide | (simp only [Int32.le_iff_toInt_le, Int32.lt_iff_toInt_lt, ti_add, ti_sub, ti_mul, Int32.reduceToInt] at *; omega)) (fun v10 ev10 => ?_)
    refine ok_gR (v := 115) hT rfl (hR 111 3 rfl) ?_
    refine ok_aIn rfl (by first | omega | decide | (simp only [Int32.le_iff_toInt_le, Int32.lt_iff_toInt_lt, ti_add, ti_sub, ti_mul, Int32.reduceToInt] at *; omega)) (by first | omega | decide | (simp only [Int32.le_iff_toInt_le, Int32.lt_iff_toInt_lt, ti_add, ti_sub, ti_mul, Int32.reduceToInt] at *; omega)) (fun v12 ev12 => ?_)
    refine ok_gR (v := 116) hT rfl (hR 111 4 rfl) ?_
    refine ok_aIn rfl (by first | omega | decide | (simp only [Int32.le_iff_toInt_le, Int32.lt_iff_toInt_lt, ti_add, ti_sub, ti_mul, Int32.reduceToInt] at *; omega)) (by first | omega | decide | (simp only [Int32.le_iff_toInt_le, Int32.lt_iff_toInt_lt, ti_add, ti_sub, ti_mul, Int32.reduceToInt] at *; omega)) (fun v14 ev14 => ?_)
    refine ok_zbT (Q := fun V σ => 0 ≤ V.toInt ∧ V.toInt ≤ 2047) hT (s_X1_headOf hN (hR.tr hT) ) (fun _ h9 => absurd h9 List.not_mem_nil) (fun v15 σ16 hOσ16 hT hqv15 => ?_)
    have hqv15 : 0 ≤ v15.toInt ∧ v15.toInt ≤ 2047 := hqv15
    have hu : 2 ≤ (σ16.1 111 8).toInt ∧ (σ16.1 111 8).toInt ≤ 1600 := by rw [hOσ16.2 111 (by decide)] <;> exact hu
    refine ok_s14 hT rfl (by decide) (by first | omega | decide | (simp only [Int32.le_iff_toInt_le, Int32.lt_iff_toInt_lt, ti_add, ti_sub, ti_mul, Int32.reduceToInt] at *; omega)) (by first | omega | decide | (simp only [Int32.le_iff_toInt_le, Int32.lt_iff_toInt_lt, ti_add, ti_sub, ti_mul, Int32.reduceToInt] at *; omega)) (fun σ17 eσ17 hOσ17 hT => ?_)
    have hu : 2 ≤ (σ17.1 111 8).toInt ∧ (σ17.1 111 8).toInt ≤ 1600 := by rw [hOσ17.2 111 (by decide)] <;> exact hu
    exact ih2_1 (x1_1 + 1, σ17) (show Tr [111, 112, 119] σ0 σ17 ∧ (2 ≤ (x1_1 + 1).toInt) ∧ (2 ≤ (σ17.1 111 8).toInt ∧ (σ17.1 111 8).toInt ≤ 1600) from ⟨hT, (by first | omega | decide | (simp only [Int32.le_iff_toInt_le, Int32.lt_iff_toInt_lt, ti_add, ti_sub, ti_mul, Int32.reduceToInt] at *; omega)), hu⟩) (show (1600 - (x1_1 + 1).toInt).toNat < (1600 - x1_1.toInt).toNat from (by first | omega | decide | (simp only [Int32.le_iff_toInt_le, Int32.lt_iff_toInt_lt, ti_add, ti_sub, ti_mul, Int32.reduceToInt] at *; omega)))

set_option maxHeartbeats 4000000 in
set_option maxRecDepth 100000 in
theorem s_X1_node {N : Nat} (hN : 1048576 ≤ N) {x1 : Int32} {x2 : Int32} {x3 : Int32} {σ0 : zS}  (hR : RF σ0.2.2) (hu : 2 ≤ (σ0.1 111 8).toInt ∧ (σ0.1 111 8).toInt ≤ 1600) : Ok (f_X1_node N 111 x1 x2 x3 σ0) (fun r => Tr [111, 112, 113, 114, 115, 116, 119] σ0 r.2 ∧ (2 ≤ (r.2.1 111 8).toInt ∧ (r.2.1 111 8).toInt ≤ 1600)) := by
  have hT : Tr [111, 112, 113, 114, 115, 116, 119] σ0 σ0 := Tr.rf
  rw [f_X1_node.eq_1]
  refine ok_zbT (Q := fun V σ => 0 ≤ V.toInt ∧ V.toInt ≤ 2047) hT (s_X1_headOf hN (hR.tr hT) ) (fun _ h9 => absurd h9 List.not_mem_nil) (fun v1 σ2 hOσ2 hT hqv1 => ?_)
  have hqv1 : 0 ≤ v1.toInt ∧ v1.toInt ≤ 2047 := hqv1
  have hu : 2 ≤ (σ2.1 111 8).toInt ∧ (σ2.1 111 8).toInt ≤ 1600 := by rw [hOσ2.2 111 (by decide)] <;> exact hu
  refine ok_gR (v := 112) hT rfl (hR 111 0 rfl) ?_
  refine ok_aIn rfl (by first | omega | decide | (simp only [Int32.le_iff_toInt_le, Int32.lt_iff_toInt_lt, ti_add, ti_sub, ti_mul, Int32.reduceToInt] at *; omega)) (by first | omega | decide | (simp only [Int32.le_iff_toInt_le, Int32.lt_iff_toInt_lt, ti_add, ti_sub, ti_mul, Int32.reduceToInt] at *; omega)) (fun v4 ev4 => ?_)
  refine ok_lp (fun t : Int32 × Int32 × zS => Tr [111, 112, 113, 114, 115, 116, 119] σ0 (t.2.2) ∧ (0 ≤ (t.2.1).toInt) ∧ (2 ≤ ((t.2.2).1 111 8).toInt ∧ ((t.2.2).1 111 8).toInt ≤ 1600)) (fun t : Int32 × Int32 × zS => (1600 - (t.2.1).toInt).toNat) (fun again5 t hI ih20_5 => ?_) N _ (show Tr [111, 112, 113, 114, 115, 116, 119] σ0 σ2 ∧ (0 ≤ (0 : Int32).toInt) ∧ (2 ≤ (σ2.1 111 8).toInt ∧ (σ2.1 111 8).toInt ≤ 1600) from ⟨hT, (by first | omega | decide | (simp only [Int32.le_iff_toInt_le, Int32.lt_iff_toInt_lt, ti_add, ti_sub, ti_mul, Int32.reduceToInt] at *; omega)), hu⟩) (show (1600 - (0 : Int32).toInt).toNat < N from (by first | omega | decide | (simp only [Int32.le_iff_toInt_le, Int32.lt_iff_toInt_lt, ti_add, ti_sub, ti_mul, Int32.reduceToInt] at *; omega)))
  obtain ⟨x5_5, x6_5, σ5⟩ := t
  have hI : Tr [111, 112, 113, 114, 115, 116, 119] σ0 σ5 ∧ (0 ≤ x6_5.toInt) ∧ (2 ≤ (σ5.1 111 8).toInt ∧ (σ5.1 111 8).toInt ≤ 1600) := hI
  obtain ⟨hT, hI5, hu⟩ := hI
  rw [F_X1_node_20.eq_1]
  refine ok_if (fun hc6 => ?_) (fun hc6 => ?_)
  · rw [J_X1_node_93.eq_1]
    refine ok_gI rfl ?_
    refine ok_if (fun hc8 => ?_) (fun hc8 => ?_)
    · exact ok_some ⟨hT, (show 2 ≤ (σ5.1 111 8).toInt ∧ (σ5.1 111 8).toInt ≤ 1600 from by exact hu)⟩
    · refine ok_if (fun hc9 => ?_) (fun hc9 => ?_)
      · exact ok_some ⟨hT, (show 2 ≤ (σ5.1 111 8).toInt ∧ (σ5.1 111 8).toInt ≤ 1600 from by exact hu)⟩
      · refine ok_if (fun hc10 => ?_) (fun hc10 => ?_)
        · refine ok_gI rfl ?_
          refine ok_pI hT rfl (by decide) (fun σ12 eσ12 hOσ12 hT => ?_)
          have hu : 2 ≤ (σ12.1 111 8).toInt ∧ (σ12.1 111 8).toInt ≤ 1600 := by rw [zI_atI eσ12]; simp only [Int32.le_iff_toInt_le, Int32.lt_iff_toInt_lt, ti_add, ti_sub, ti_mul, Int32.reduceToInt] at *; omega
          refine ok_gR (v := 114) hT rfl (hR 111 2 rfl) ?_
          refine ok_s14 hT rfl (by decide) (by first | omega | decide | (simp only [Int32.le_iff_toInt_le, Int32.lt_iff_toInt_lt, ti_add, ti_sub, ti_mul, Int32.reduceToInt] at *; omega)) (by first | omega | decide | (simp only [Int32.le_iff_toInt_le, Int32.lt_iff_toInt_lt, ti_add, ti_sub, ti_mul, Int32.reduceToInt] at *; omega)) (fun σ14 eσ14 hOσ14 hT => ?_)
          have hu : 2 ≤ (σ14.1 111 8).toInt ∧ (σ14.1 111 8).toInt ≤ 1600 := by rw [hOσ14.2 111 (by decide)] <;> exact hu
          refine ok_gR (v := 115) hT rfl (hR 111 3 rfl) ?_
          refine ok_s14 hT rfl (by decide) (by first | omega | decide | (simp only [Int32.le_iff_toInt_le, Int32.lt_iff_toInt_lt, ti_add, ti_sub, ti_mul, Int32.reduceToInt] at *; omega)) (by first | omega | decide | (simp only [Int32.le_iff_toInt_le, Int32.lt_iff_toInt_lt, ti_add, ti_sub, ti_mul, Int32.reduceToInt] at *; omega)) (fun σ16 eσ16 hOσ16 hT => ?_)
          have hu : 2 ≤ (σ16.1 111 8).toInt ∧ (σ16.1 111 8).toInt ≤ 1600 := by rw [hOσ16.2 111 (by decide)] <;> exact hu
          refine ok_gR (v := 116) hT rfl (hR 111 4 rfl) ?_
          refine ok_s14 hT rfl (by decide) (by first | omega | decide | (simp only [Int32.le_iff_toInt_le, Int32.lt_iff_toInt_lt, ti_add, ti_sub, ti_mul, Int32.reduceToInt] at *; omega)) (by first | omega | decide | (simp only [Int32.le_iff_toInt_le, Int32.lt_iff_toInt_lt, ti_add, ti_sub, ti_mul, Int32.reduceToInt] at *; omega)) (fun σ18 eσ18 hOσ18 hT => ?_)
          have hu : 2 ≤ (σ18.1 111 8).toInt ∧ (σ18.1 111 8).toInt ≤ 1600 := by rw [hOσ18.2 111 (by decide)] <;> exact hu
          refine ok_gR (v := 113) hT rfl (hR 111 1 rfl) ?_
          refine ok_gR (v := 112) hT rfl (hR 111 0 rfl) ?_
          refine ok_aIn rfl (by first | omega | decide | (simp only [Int32.le_iff_toInt_le, Int32.lt_iff_toInt_lt, ti_add, ti_sub, ti_mul, Int32.reduceToInt] at *; omega)) (by first | omega | decide | (simp only [Int32.le_iff_toInt_le, Int32.lt_iff_toInt_lt, ti_add, ti_sub, ti_mul, Int32.reduceToInt] at *; omega)) (fun v21 ev21 => ?_)
          refine ok_s14 hT rfl (by decide) (by first | omega | decide | (simp only [Int32.le_iff_toInt_le, Int32.lt_iff_toInt_lt, ti_add, ti_sub, ti_mul, Int32.reduceToInt] at *; omega)) (by first | omega | decide | (simp only [Int32.le_iff_toInt_le, Int32.lt_iff_toInt_lt, ti_add, ti_sub, ti_mul, Int32.reduceToInt] at *; omega)) (fun σ22 eσ22 hOσ22 hT => ?_)
          have hu : 2 ≤ (σ22.1 111 8).toInt ∧ (σ22.1 111 8).toInt ≤ 1600 := by rw [hOσ22.2 111 (by decide)] <;> exact hu
          refine ok_gR (v := 112) hT rfl (hR 111 0 rfl) ?_
          refine ok_s14 hT rfl (by decide) (by first | omega | decide | (simp only [Int32.le_iff_toInt_le, Int32.lt_iff_toInt_lt, ti_add, ti_sub, ti_mul, Int32.reduceToInt] at *; omega)) (by first | omega | decide | (simp only [Int32.le_iff_toInt_le, Int32.lt_iff_toInt_lt, ti_add, ti_sub, ti_mul, Int32.reduceToInt] at *; omega)) (fun σ24 eσ24 hOσ24 hT => ?_)
          have hu : 2 ≤ (σ24.1 111 8).toInt ∧ (σ24.1 111 8).toInt ≤ 1600 := by rw [hOσ24.2 111 (by decide)] <;> exact hu
          refine ok_gR (v := 119) hT rfl (hR 111 7 rfl) ?_
          refine ok_aIn rfl (by first | omega | decide | (simp only [Int32.le_iff_toInt_le, Int32.lt_iff_toInt_lt, ti_add, ti_sub, ti_mul, Int32.reduceToInt] at *; omega)) (by first | omega | decide | (simp only [Int32.le_iff_toInt_le, Int32.lt_iff_toInt_lt, ti_add, ti_sub, ti_mul, Int32.reduceToInt] at *; omega)) (fun v26 ev26 => ?_)
          refine ok_s14 hT rfl (by decide) (by first | omega | decide | (simp only [Int32.le_iff_toInt_le, Int32.lt_iff_toInt_lt, ti_add, ti_sub, ti_mul, Int32.reduceToInt] at *; omega)) (by first | omega | decide | (simp only [Int32.le_iff_toInt_le, Int32.lt_iff_toInt_lt, ti_add, ti_sub, ti_mul, Int32.reduceToInt] at *; omega)) (fun σ27 eσ27 hOσ27 hT => ?_)
          have hu : 2 ≤ (σ27.1 111 8).toInt ∧ (σ27.1 111 8).toInt ≤ 1600 := by rw [hOσ27.2 111 (by decide)] <;> exact hu
          exact ok_some ⟨hT, (show 2 ≤ (σ27.1 111 8).toInt ∧ (σ27.1 111 8).toInt ≤ 1600 from by exact hu)⟩
        · exact ok_some ⟨hT, (show 2 ≤ (σ5.1 111 8).toInt ∧ (σ5.1 111 8).toInt ≤ 1600 from by exact hu)⟩
  · refine ok_if (fun hc28 => ?_) (fun hc28 => ?_)
    · rw [J_X1_node_93.eq_1]
      refine ok_gI rfl ?_
      refine ok_if (fun hc30 => ?_) (fun hc30 => ?_)
      · exact ok_some ⟨hT, (show 2 ≤ (σ5.1 111 8).toInt ∧ (σ5.1 111 8).toInt ≤ 1600 from by exact hu)⟩
      · refine ok_if (fun hc31 => ?_) (fun hc31 => ?_)
        · exact ok_some ⟨hT, (show 2 ≤ (σ5.1 111 8).toInt ∧ (σ5.1 111 8).toInt ≤ 1600 from by exact hu)⟩
        · refine ok_if (fun hc32 => ?_) (fun hc32 => ?_)
          · refine ok_gI rfl ?_
            refine ok_pI hT rfl (by decide) (fun σ34 eσ34 hOσ34 hT => ?_)
            have hu : 2 ≤ (σ34.1 111 8).toInt ∧ (σ34.1 111 8).toInt ≤ 1600 := by rw [zI_atI eσ34]; simp only [Int32.le_iff_toInt_le, Int32.lt_iff_toInt_lt, ti_add, ti_sub, ti_mul, Int32.reduceToInt] at *; omega
            refine ok_gR (v := 114) hT rfl (hR 111 2 rfl) ?_
            refine ok_s14 hT rfl (by decide) (by first | omega | decide | (simp only [Int32.le_iff_toInt_le, Int32.lt_iff_toInt_lt, ti_add, ti_sub, ti_mul, Int32.reduceToInt] at *; omega)) (by first | omega | decide | (simp only [Int32.le_iff_toInt_le, Int32.lt_iff_toInt_lt, ti_add, ti_sub, ti_mul, Int32.reduceToInt] at *; omega)) (fun σ36 eσ36 hOσ36 hT => ?_)
            have hu : 2 ≤ (σ36.1 111 8).toInt ∧ (σ36.1 111 8).toInt ≤ 1600 := by rw [hOσ36.2 111 (by decide)] <;> exact hu
            refine ok_gR (v := 115) hT rfl (hR 111 3 rfl) ?_
            refine ok_s14 hT rfl (by decide) (by first | omega | decide | (simp only [Int32.le_iff_toInt_le, Int32.lt_iff_toInt_lt, ti_add, ti_sub, ti_mul, Int32.reduceToInt] at *; omega)) (by first | omega | decide | (simp only [Int32.le_iff_toInt_le, Int32.lt_iff_toInt_lt, ti_add, ti_sub, ti_mul, Int32.reduceToInt] at *; omega)) (fun σ38 eσ38 hOσ38 hT => ?_)
            have hu : 2 ≤ (σ38.1 111 8).toInt ∧ (σ38.1 111 8).toInt ≤ 1600 := by rw [hOσ38.2 111 (by decide)] <;> exact hu
            refine ok_gR (v := 116) hT rfl (hR 111 4 rfl) ?_
            refine ok_s14 hT rfl (by decide) (by first | omega | decide | (simp only [Int32.le_iff_toInt_le, Int32.lt_iff_toInt_lt, ti_add, ti_sub, ti_mul, Int32.reduceToInt] at *; omega)) (by first | omega | decide | (simp only [Int32.le_iff_toInt_le, Int32.lt_iff_toInt_lt, ti_add, ti_sub, ti_mul, Int32.reduceToInt] at *; omega)) (fun σ40 eσ40 hOσ40 hT => ?_)
            have hu : 2 ≤ (σ40.1 111 8).toInt ∧ (σ40.1 111 8).toInt ≤ 1600 := by rw [hOσ40.2 111 (by decide)] <;> exact hu
            refine ok_gR (v := 113) hT rfl (hR 111 1 rfl) ?_
            refine ok_gR (v := 112) hT rfl (hR 111 0 rfl) ?_
            refine ok_aIn rfl (by first | omega | decide | (simp only [Int32.le_iff_toInt_le, Int32.lt_iff_toInt_lt, ti_add, ti_sub, ti_mul, Int32.reduceToInt] at *; omega)) (by first | omega | decide | (simp only [Int32.le_iff_toInt_le, Int32.lt_iff_toInt_lt, ti_add, ti_sub, ti_mul, Int32.reduceToInt] at *; omega)) (fun v43 ev43 => ?_)
            refine ok_s14 hT rfl (by decide) (by first | omega | decide | (simp only [Int32.le_iff_toInt_le, Int32.lt_iff_toInt_lt, ti_add, ti_sub, ti_mul, Int32.reduceToInt] at *; omega)) (by first | omega | decide | (simp only [Int32.le_iff_toInt_le, Int32.lt_iff_toInt_lt, ti_add, ti_sub, ti_mul, Int32.reduceToInt] at *; omega)) (fun σ44 eσ44 hOσ44 hT => ?_)
            have hu : 2 ≤ (σ44.1 111 8).toInt ∧ (σ44.1 111 8).toInt ≤ 1600 := by rw [hOσ44.2 111 (by decide)] <;> exact hu
            refine ok_gR (v := 112) hT rfl (hR 111 0 rfl) ?_
            refine ok_s14 hT rfl (by decide) (by first | omega | decide | (simp only [Int32.le_iff_toInt_le, Int32.lt_iff_toInt_lt, ti_add, ti_sub, ti_mul, Int32.reduceToInt] at *; omega)) (by first | omega | decide | (simp only [Int32.le_iff_toInt_le, Int32.lt_iff_toInt_lt, ti_add, ti_sub, ti_mul, Int32.reduceToInt] at *; omega)) (fun σ46 eσ46 hOσ46 hT => ?_)
            have hu : 2 ≤ (σ46.1 111 8).toInt ∧ (σ46.1 111 8).toInt ≤ 1600 := by rw [hOσ46.2 111 (by decide)] <;> exact hu
            refine ok_gR (v := 119) hT rfl (hR 111 7 rfl) ?_
            refine ok_aIn rfl (by first | omega | decide | (simp only [Int32.le_iff_toInt_le, Int32.lt_iff_toInt_lt, ti_add, ti_sub, ti_mul, Int32.reduceToInt] at *; omega)) (by first | omega | decide | (simp only [Int32.le_iff_toInt_le, Int32.lt_iff_toInt_lt, ti_add, ti_sub, ti_mul, Int32.reduceToInt] at *; omega)) (fun v48 ev48 => ?_)
            refine ok_s14 hT rfl (by decide) (by first | omega | decide | (simp only [Int32.le_iff_toInt_le, Int32.lt_iff_toInt_lt, ti_add, ti_sub, ti_mul, Int32.reduceToInt] at *; omega)) (by first | omega | decide | (simp only [Int32.le_iff_toInt_le, Int32.lt_iff_toInt_lt, ti_add, ti_sub, ti_mul, Int32.reduceToInt] at *; omega)) (fun σ49 eσ49 hOσ49 hT => ?_)
            have hu : 2 ≤ (σ49.1 111 8).toInt ∧ (σ49.1 111 8).toInt ≤ 1600 := by rw [hOσ49.2 111 (by decide)] <;> exact hu
            exact ok_some ⟨hT, (show 2 ≤ (σ49.1 111 8).toInt ∧ (σ49.1 111 8).toInt ≤ 1600 from by exact hu)⟩
          · exact ok_some ⟨hT, (show 2 ≤ (σ5.1 111 8).toInt ∧ (σ5.1 111 8).toInt ≤ 1600 from by exact hu)⟩
    · refine ok_if (fun hc50 => ?_) (fun hc50 => ?_)
      · rw [J_X1_node_93.eq_1]
        refine ok_gI rfl ?_
        refine ok_if (fun hc52 => ?_) (fun hc52 => ?_)
        · exact ok_some ⟨hT, (show 2 ≤ (σ5.1 111 8).toInt ∧ (σ5.1 111 8).toInt ≤ 1600 from by exact hu)⟩
        · refine ok_if (fun hc53 => ?_) (fun hc53 => ?_)
          · exact ok_some ⟨hT, (show 2 ≤ (σ5.1 111 8).toInt ∧ (σ5.1 111 8).toInt ≤ 1600 from by exact hu)⟩
          · refine ok_if (fun hc54 => ?_) (fun hc54 => ?_)
            · refine ok_gI rfl ?_
              refine ok_pI hT rfl (by decide) (fun σ56 eσ56 hOσ56 hT => ?_)
              have hu : 2 ≤ (σ56.1 111 8).toInt ∧ (σ56.1 111 8).toInt ≤ 1600 := by rw [zI_atI eσ56]; simp only [Int32.le_iff_toInt_le, Int32.lt_iff_toInt_lt, ti_add, ti_sub, ti_mul, Int32.reduceToInt] at *; omega
              refine ok_gR (v := 114) hT rfl (hR 111 2 rfl) ?_
              refine ok_s14 hT rfl (by decide) (by first | omega | decide | (simp only [Int32.le_iff_toInt_le, Int32.lt_iff_toInt_lt, ti_add, ti_sub, ti_mul, Int32.reduceToInt] at *; omega)) (by first | omega | decide | (simp only [Int32.le_iff_toInt_le, Int32.lt_iff_toInt_lt, ti_add, ti_sub, ti_mul, Int32.reduceToInt] at *; omega)) (fun σ58 eσ58 hOσ58 hT => ?_)
              have hu : 2 ≤ (σ58.1 111 8).toInt ∧ (σ58.1 111 8).toInt ≤ 1600 := by rw [hOσ58.2 111 (by decide)] <;> exact hu
              refine ok_gR (v := 115) hT rfl (hR 111 3 rfl) ?_
              refine ok_s14 hT rfl (by decide) (by first | omega | decide | (simp only [Int32.le_iff_toInt_le, Int32.lt_iff_toInt_lt, ti_add, ti_sub, ti_mul, Int32.reduceToInt] at *; omega)) (by first | omega | decide | (simp only [Int32.le_iff_toInt_le, Int32.lt_iff_toInt_lt, ti_add, ti_sub, ti_mul, Int32.reduceToInt] at *; omega)) (fun σ60 eσ60 hOσ60 hT => ?_)
              have hu : 2 ≤ (σ60.1 111 8).toInt ∧ (σ60.1 111 8).toInt ≤ 1600 := by rw [hOσ60.2 111 (by decide)] <;> exact hu
              refine ok_gR (v := 116) hT rfl (hR 111 4 rfl) ?_
              refine ok_s14 hT rfl (by decide) (by first | omega | decide | (simp only [Int32.le_iff_toInt_le, Int32.lt_iff_toInt_lt, ti_add, ti_sub, ti_mul, Int32.reduceToInt] at *; omega)) (by first | omega | decide | (simp only [Int32.le_iff_toInt_le, Int32.lt_iff_toInt_lt, ti_add, ti_sub, ti_mul, Int32.reduceToInt] at *; omega)) (fun σ62 eσ62 hOσ62 hT => ?_)
              have hu : 2 ≤ (σ62.1 111 8).toInt ∧ (σ62.1 111 8).toInt ≤ 1600 := by rw [hOσ62.2 111 (by decide)] <;> exact hu
              refine ok_gR (v := 113) hT rfl (hR 111 1 rfl) ?_
              refine ok_gR (v := 112) hT rfl (hR 111 0 rfl) ?_
              refine ok_aIn rfl (by first | omega | decide | (simp only [Int32.le_iff_toInt_le, Int32.lt_iff_toInt_lt, ti_add, ti_sub, ti_mul, Int32.reduceToInt] at *; omega)) (by first | omega | decide | (simp only [Int32.le_iff_toInt_le, Int32.lt_iff_toInt_lt, ti_add, ti_sub, ti_mul, Int32.reduceToInt] at *; omega)) (fun v65 ev65 => ?_)
              refine ok_s14 hT rfl (by decide) (by first | omega | decide | (simp only [Int32.le_iff_toInt_le, Int32.lt_iff_toInt_lt, ti_add, ti_sub, ti_mul, Int32.reduceToInt] at *; omega)) (by first | omega | decide | (simp only [Int32.le_iff_toInt_le, Int32.lt_iff_toInt_lt, ti_add, ti_sub, ti_mul, Int32.reduceToInt] at *; omega)) (fun σ66 eσ66 hOσ66 hT => ?_)
              have hu : 2 ≤ (σ66.1 111 8).toInt ∧ (σ66.1 111 8).toInt ≤ 1600 := by rw [hOσ66.2 111 (by decide)] <;> exact hu
              refine ok_gR (v := 112) hT rfl (hR 111 0 rfl) ?_
              refine ok_s14 hT rfl (by decide) (by first | omega | decide | (simp only [Int32.le_iff_toInt_le, Int32.lt_iff_toInt_lt, ti_add, ti_sub, ti_mul, Int32.reduceToInt] at *; omega)) (by first | omega | decide | (simp only [Int32.le_iff_toInt_le, Int32.lt_iff_toInt_lt, ti_add, ti_sub, ti_mul, Int32.reduceToInt] at *; omega)) (fun σ68 eσ68 hOσ68 hT => ?_)
              have hu : 2 ≤ (σ68.1 111 8).toInt ∧ (σ68.1 111 8).toInt ≤ 1600 := by rw [hOσ68.2 111 (by decide)] <;> exact hu
              refine ok_gR (v := 119) hT rfl (hR 111 7 rfl) ?_
              refine ok_aIn rfl (by first | omega | decide | (simp only [Int32.le_iff_toInt_le, Int32.lt_iff_toInt_lt, ti_add, ti_sub, ti_mul, Int32.reduceToInt] at *; omega)) (by first | omega | decide | (simp only [Int32.le_iff_toInt_le, Int32.lt_iff_toInt_lt, ti_add, ti_sub, ti_mul, Int32.reduceToInt] at *; omega)) (fun v70 ev70 => ?_)
              refine ok_s14 hT rfl (by decide) (by first | omega | decide | (simp only [Int32.le_iff_toInt_le, Int32.lt_iff_toInt_lt, ti_add, ti_sub, ti_mul, Int32.reduceToInt] at *; omega)) (by first | omega | decide | (simp only [Int32.le_iff_toInt_le, Int32.lt_iff_toInt_lt, ti_add, ti_sub, ti_mul, Int32.reduceToInt] at *; omega)) (fun σ71 eσ71 hOσ71 hT => ?_)
              have hu : 2 ≤ (σ71.1 111 8).toInt ∧ (σ71.1 111 8).toInt ≤ 1600 := by rw [hOσ71.2 111 (by decide)] <;> exact hu
              exact ok_some ⟨hT, (show 2 ≤ (σ71.1 111 8).toInt ∧ (σ71.1 111 8).toInt ≤ 1600 from by exact hu)⟩
            · exact ok_some ⟨hT, (show 2 ≤ (σ5.1 111 8).toInt ∧ (σ5.1 111 8).toInt ≤ 1600 from by exact hu)⟩
      · refine ok_gR (v := 114) hT rfl (hR 111 2 rfl) ?_
        refine ok_aIn rfl (by first | omega | decide | (simp only [Int32.le_iff_toInt_le, Int32.lt_iff_toInt_lt, ti_add, ti_sub, ti_mul, Int32.reduceToInt] at *; omega)) (by first | omega | decide | (simp only [Int32.le_iff_toInt_le, Int32.lt_iff_toInt_lt, ti_add, ti_sub, ti_mul, Int32.reduceToInt] at *; omega)) (fun v73 ev73 => ?_)
        refine ok_if (fun hc74 => ?_) (fun hc74 => ?_)
        · refine ok_gR (v := 115) hT rfl (hR 111 3 rfl) ?_
          refine ok_aIn rfl (by first | omega | decide | (simp only [Int32.le_iff_toInt_le, Int32.lt_iff_toInt_lt, ti_add, ti_sub, ti_mul, Int32.reduceToInt] at *; omega)) (by first | omega | decide | (simp only [Int32.le_iff_toInt_le, Int32.lt_iff_toInt_lt, ti_add, ti_sub, ti_mul, Int32.reduceToInt] at *; omega)) (fun v76 ev76 => ?_)
          refine ok_if (fun hc77 => ?_) (fun hc77 => ?_)
          · refine ok_gR (v := 116) hT rfl (hR 111 4 rfl) ?_
            refine ok_aIn rfl (by first | omega | decide | (simp only [Int32.le_iff_toInt_le, Int32.lt_iff_toInt_lt, ti_add, ti_sub, ti_mul, Int32.reduceToInt] at *; omega)) (by first | omega | decide | (simp only [Int32.le_iff_toInt_le, Int32.lt_iff_toInt_lt, ti_add, ti_sub, ti_mul, Int32.reduceToInt] at *; omega)) (fun v79 ev79 => ?_)
            refine ok_if (fun hc80 => ?_) (fun hc80 => ?_)
            · exact ok_some ⟨hT, (show 2 ≤ (σ5.1 111 8).toInt ∧ (σ5.1 111 8).toInt ≤ 1600 from by exact hu)⟩
            · refine ok_gR (v := 113) hT rfl (hR 111 1 rfl) ?_
              refine ok_aIn rfl (by first | omega | decide | (simp only [Int32.le_iff_toInt_le, Int32.lt_iff_toInt_lt, ti_add, ti_sub, ti_mul, Int32.reduceToInt] at *; omega)) (by first | omega | decide | (simp only [Int32.le_iff_toInt_le, Int32.lt_iff_toInt_lt, ti_add, ti_sub, ti_mul, Int32.reduceToInt] at *; omega)) (fun v82 ev82 => ?_)
              exact ih20_5 (v82, x6_5 + 1, σ5) (show Tr [111, 112, 113, 114, 115, 116, 119] σ0 σ5 ∧ (0 ≤ (x6_5 + 1).toInt) ∧ (2 ≤ (σ5.1 111 8).toInt ∧ (σ5.1 111 8).toInt ≤ 1600) from ⟨hT, (by first | omega | decide | (simp only [Int32.le_iff_toInt_le, Int32.lt_iff_toInt_lt, ti_add, ti_sub, ti_mul, Int32.reduceToInt] at *; omega)), hu⟩) (show (1600 - (x6_5 + 1).toInt).toNat < (1600 - x6_5.toInt).toNat from (by first | omega | decide | (simp only [Int32.le_iff_toInt_le, Int32.lt_iff_toInt_lt, ti_add, ti_sub, ti_mul, Int32.reduceToInt] at *; omega)))
          · refine ok_gR (v := 113) hT rfl (hR 111 1 rfl) ?_
            refine ok_aIn rfl (by first | omega | decide | (simp only [Int32.le_iff_toInt_le, Int32.lt_iff_toInt_lt, ti_add, ti_sub, ti_mul, Int32.reduceToInt] at *; omega)) (by first | omega | decide | (simp only [Int32.le_iff_toInt_le, Int32.lt_iff_toInt_lt, ti_add, ti_sub, ti_mul, Int32.reduceToInt] at *; omega)) (fun v84 ev84 => ?_)
            exact ih20_5 (v84, x6_5 + 1, σ5) (show Tr [111, 112, 113, 114, 115, 116, 119] σ0 σ5 ∧ (0 ≤ (x6_5 + 1).toInt) ∧ (2 ≤ (σ5.1 111 8).toInt ∧ (σ5.1 111 8).toInt ≤ 1600) from ⟨hT, (by first | omega | decide | (simp only [Int32.le_iff_toInt_le, Int32.lt_iff_toInt_lt, ti_add, ti_sub, ti_mul, Int32.reduceToInt] at *; omega)), hu⟩) (show (1600 - (x6_5 + 1).toInt).toNat < (1600 - x6_5.toInt).toNat from (by first | omega | decide | (simp only [Int32.le_iff_toInt_le, Int32.lt_iff_toInt_lt, ti_add, ti_sub, ti_mul, Int32.reduceToInt] at *; omega)))
        · refine ok_gR (v := 113) hT rfl (hR 111 1 rfl) ?_
          refine ok_aIn rfl (by first | omega | decide | (simp only [Int32.le_iff_toInt_le, Int32.lt_iff_toInt_lt, ti_add, ti_sub, ti_mul, Int32.reduceToInt] at *; omega)) (by first | omega | decide | (simp only [Int32.le_iff_toInt_le, Int32.lt_iff_toInt_lt, ti_add, ti_sub, ti_mul, Int32.reduceToInt] at *; omega)) (fun v86 ev86 => ?_)
          exact ih20_5 (v86, x6_5 + 1, σ5) (show Tr [111, 112, 113, 114, 115, 116, 119] σ0 σ5 ∧ (0 ≤ (x6_5 + 1).toInt) ∧ (2 ≤ (σ5.1 111 8).toInt ∧ (σ5.1 111 8).toInt ≤ 1600) from ⟨hT, (by first | omega | decide | (simp only [Int32.le_iff_toInt_le, Int32.lt_iff_toInt_lt, ti_add, ti_sub, ti_mul, Int32.reduceToInt] at *; omega)), hu⟩) (show (1600 - (x6_5 + 1).toInt).toNat < (1600 - x6_5.toInt).toNat from (by first | omega | decide | (simp only [Int32.le_iff_toInt_le, Int32.lt_iff_toInt_lt, ti_add, ti_sub, ti_mul, Int32.reduceToInt] at *; omega)))

set_option maxHeartbeats 4000000 in
set_option maxRecDepth 100000 in
theorem s_X1_grow {N : Nat} (hN : 1048576 ≤ N) {x1 : Nat} {x2 : Int32} {σ0 : zS}  (hR : RF σ0.2.2) (h_x1 : (zKd x1).1 = 2) (hu : 2 ≤ (σ0.1 111 8).toInt ∧ (σ0.1 111 8).toInt ≤ 1600) (hn : 0 ≤ x2.toInt ∧ x2.toInt ≤ 10) : Ok (f_X1_grow N 111 x1 x2 σ0) (fun r => Tr [111, 112, 113, 114, 115, 116, 118, 119] σ0 r.2 ∧ (2 ≤ (r.2.1 111 8).toInt ∧ (r.2.1 111 8).toInt ≤ 1600)) := by
  have hT : Tr [111, 112, 113, 114, 115, 116, 118, 119] σ0 σ0 := Tr.rf
  rw [f_X1_grow.eq_1]
  have q0 := ti_one10 (ti_mm x2).1 (ti_mm x2).2
  refine ok_lp (fun t : Int32 × zS => Tr [111, 112, 113, 114, 115, 116, 118, 119] σ0 (t.2) ∧ (0 ≤ (t.1).toInt) ∧ (2 ≤ ((t.2).1 111 8).toInt ∧ ((t.2).1 111 8).toInt ≤ 1600)) (fun t : Int32 × zS => (((1 : Int32) <<< ((zmax 0 (zmin 10 x2)) &&& 31)).toInt - (t.1).toInt).toNat) (fun again1 t hI ih16_1 => ?_) N _ (show Tr [111, 112, 113, 114, 115, 116, 118, 119] σ0 σ0 ∧ (0 ≤ (0 : Int32).toInt) ∧ (2 ≤ (σ0.1 111 8).toInt ∧ (σ0.1 111 8).toInt ≤ 1600) from ⟨hT, (by first | omega | decide | (simp only [Int32.le_iff_toInt_le, Int32.lt_iff_toInt_lt, ti_add, ti_sub, ti_mul, Int32.reduceToInt] at *; omega)), hu⟩) (show (((1 : Int32) <<< ((zmax 0 (zmin 10 x2)) &&& 31)).toInt - (0 : Int32).toInt).toNat < N from (by first | omega | decide | (simp only [Int32.le_iff_toInt_le, Int32.lt_iff_toInt_lt, ti_add, ti_sub, ti_mul, Int32.reduceToInt] at *; omega)))
  obtain ⟨x4_1, σ1⟩ := t
  have hI : Tr [111, 112, 113, 114, 115, 116, 118, 119] σ0 σ1 ∧ (0 ≤ x4_1.toInt) ∧ (2 ≤ (σ1.1 111 8).toInt ∧ (σ1.1 111 8).toInt ≤ 1600) := hI
  obtain ⟨hT, hI1, hu⟩ := hI
  rw [F_X1_grow_16.eq_1]
  refine ok_if (fun hc2 => ?_) (fun hc2 => ?_)
  · have q5 := ti_zmin 10 x2
    simp only [Int32.reduceToInt] at q5
    refine ok_lp (fun t : Int32 × zS => Tr [111, 112, 113, 114, 115, 116, 118, 119] σ0 (t.2) ∧ ((t.1).toInt ≤ 9) ∧ (2 ≤ ((t.2).1 111 8).toInt ∧ ((t.2).1 111 8).toInt ≤ 1600)) (fun t : Int32 × zS => ((t.1).toInt + 1).toNat) (fun again3 t hI ih64_3 => ?_) N _ (show Tr [111, 112, 113, 114, 115, 116, 118, 119] σ0 σ1 ∧ (((zmin 10 x2) - 1).toInt ≤ 9) ∧ (2 ≤ (σ1.1 111 8).toInt ∧ (σ1.1 111 8).toInt ≤ 1600) from ⟨hT, (by first | omega | decide | (simp only [Int32.le_iff_toInt_le, Int32.lt_iff_toInt_lt, ti_add, ti_sub, ti_mul, Int32.reduceToInt] at *; omega)), hu⟩) (show (((zmin 10 x2) - 1).toInt + 1).toNat < N from (by first | omega | decide | (simp only [Int32.le_iff_toInt_le, Int32.lt_iff_toInt_lt, ti_add, ti_sub, ti_mul, Int32.reduceToInt] at *; omega)))
    obtain ⟨x4_3, σ3⟩ := t
    have hI : Tr [111, 112, 113, 114, 115, 116, 118, 119] σ0 σ3 ∧ (x4_3.toInt ≤ 9) ∧ (2 ≤ (σ3.1 111 8).toInt ∧ (σ3.1 111 8).toInt ≤ 1600) := hI
    obtain ⟨hT, hI3, hu⟩ := hI
    rw [F_X1_grow_64.eq_1]
    refine ok_if (fun hc4 => ?_) (fun hc4 => ?_)
    · exact ok_some ⟨hT, (show 2 ≤ (σ3.1 111 8).toInt ∧ (σ3.1 111 8).toInt ≤ 1600 from by exact hu)⟩
    · have q9 := ti_one9 (x := x4_3) (by simp only [Int32.le_iff_toInt_le, Int32.lt_iff_toInt_lt, Int32.reduceToInt] at *; omega) (by simp only [Int32.le_iff_toInt_le, Int32.lt_iff_toInt_lt, Int32.reduceToInt] at *; omega)
      refine ok_lp (fun t : Int32 × zS => Tr [111, 112, 113, 114, 115, 116, 118, 119] σ0 (t.2) ∧ (0 ≤ (t.1).toInt) ∧ (2 ≤ ((t.2).1 111 8).toInt ∧ ((t.2).1 111 8).toInt ≤ 1600)) (fun t : Int32 × zS => (((1 : Int32) <<< (x4_3 &&& 31)).toInt - (t.1).toInt).toNat) (fun again5 t hI ih72_5 => ?_) N _ (show Tr [111, 112, 113, 114, 115, 116, 118, 119] σ0 σ3 ∧ (0 ≤ (0 : Int32).toInt) ∧ (2 ≤ (σ3.1 111 8).toInt ∧ (σ3.1 111 8).toInt ≤ 1600) from ⟨hT, (by first | omega | decide | (simp only [Int32.le_iff_toInt_le, Int32.lt_iff_toInt_lt, ti_add, ti_sub, ti_mul, Int32.reduceToInt] at *; omega)), hu⟩) (show (((1 : Int32) <<< (x4_3 &&& 31)).toInt - (0 : Int32).toInt).toNat < N from (by first | omega | decide | (simp only [Int32.le_iff_toInt_le, Int32.lt_iff_toInt_lt, ti_add, ti_sub, ti_mul, Int32.reduceToInt] at *; omega)))
      obtain ⟨x5_5, σ5⟩ := t
      have hI : Tr [111, 112, 113, 114, 115, 116, 118, 119] σ0 σ5 ∧ (0 ≤ x5_5.toInt) ∧ (2 ≤ (σ5.1 111 8).toInt ∧ (σ5.1 111 8).toInt ≤ 1600) := hI
      obtain ⟨hT, hI5, hu⟩ := hI
      rw [F_X1_grow_72.eq_1]
      refine ok_if (fun hc6 => ?_) (fun hc6 => ?_)
      · exact ih64_3 (x4_3 + (-1), σ5) (show Tr [111, 112, 113, 114, 115, 116, 118, 119] σ0 σ5 ∧ ((x4_3 + (-1)).toInt ≤ 9) ∧ (2 ≤ (σ5.1 111 8).toInt ∧ (σ5.1 111 8).toInt ≤ 1600) from ⟨hT, (by first | omega | decide | (simp only [Int32.le_iff_toInt_le, Int32.lt_iff_toInt_lt, ti_add, ti_sub, ti_mul, Int32.reduceToInt] at *; omega)), hu⟩) (show ((x4_3 + (-1)).toInt + 1).toNat < (x4_3.toInt + 1).toNat from (by first | omega | decide | (simp only [Int32.le_iff_toInt_le, Int32.lt_iff_toInt_lt, ti_add, ti_sub, ti_mul, Int32.reduceToInt] at *; omega)))
      · refine ok_gR (v := 118) hT rfl (hR 111 6 rfl) ?_
        refine ok_aIn rfl (by first | omega | decide | (simp only [Int32.le_iff_toInt_le, Int32.lt_iff_toInt_lt, ti_add, ti_sub, ti_mul, Int32.reduceToInt] at *; omega)) (by first | omega | decide | (simp only [Int32.le_iff_toInt_le, Int32.lt_iff_toInt_lt, ti_add, ti_sub, ti_mul, Int32.reduceToInt] at *; omega)) (fun v8 ev8 => ?_)
        refine ok_gR (v := 118) hT rfl (hR 111 6 rfl) ?_
        refine ok_if (fun hc10 => ?_) (fun hc10 => ?_)
        · refine ok_gR (v := 118) hT rfl (hR 111 6 rfl) ?_
          refine ok_aIn rfl (by first | omega | decide | (simp only [Int32.le_iff_toInt_le, Int32.lt_iff_toInt_lt, ti_add, ti_sub, ti_mul, Int32.reduceToInt] at *; omega)) (by first | omega | decide | (simp only [Int32.le_iff_toInt_le, Int32.lt_iff_toInt_lt, ti_add, ti_sub, ti_mul, Int32.reduceToInt] at *; omega)) (fun v12 ev12 => ?_)
          refine ok_s14 hT rfl (by decide) (by first | omega | decide | (simp only [Int32.le_iff_toInt_le, Int32.lt_iff_toInt_lt, ti_add, ti_sub, ti_mul, Int32.reduceToInt] at *; omega)) (by first | omega | decide | (simp only [Int32.le_iff_toInt_le, Int32.lt_iff_toInt_lt, ti_add, ti_sub, ti_mul, Int32.reduceToInt] at *; omega)) (fun σ13 eσ13 hOσ13 hT => ?_)
          have hu : 2 ≤ (σ13.1 111 8).toInt ∧ (σ13.1 111 8).toInt ≤ 1600 := by rw [hOσ13.2 111 (by decide)] <;> exact hu
          exact ih72_5 (x5_5 + 1, σ13) (show Tr [111, 112, 113, 114, 115, 116, 118, 119] σ0 σ13 ∧ (0 ≤ (x5_5 + 1).toInt) ∧ (2 ≤ (σ13.1 111 8).toInt ∧ (σ13.1 111 8).toInt ≤ 1600) from ⟨hT, (by first | omega | decide | (simp only [Int32.le_iff_toInt_le, Int32.lt_iff_toInt_lt, ti_add, ti_sub, ti_mul, Int32.reduceToInt] at *; omega)), hu⟩) (show (((1 : Int32) <<< (x4_3 &&& 31)).toInt - (x5_5 + 1).toInt).toNat < (((1 : Int32) <<< (x4_3 &&& 31)).toInt - x5_5.toInt).toNat from (by first | omega | decide | (simp only [Int32.le_iff_toInt_le, Int32.lt_iff_toInt_lt, ti_add, ti_sub, ti_mul, Int32.reduceToInt] at *; omega)))
        · refine ok_gR (v := 118) hT rfl (hR 111 6 rfl) ?_
          refine ok_aIn rfl (by first | omega | decide | (simp only [Int32.le_iff_toInt_le, Int32.lt_iff_toInt_lt, ti_add, ti_sub, ti_mul, Int32.reduceToInt] at *; omega)) (by first | omega | decide | (simp only [Int32.le_iff_toInt_le, Int32.lt_iff_toInt_lt, ti_add, ti_sub, ti_mul, Int32.reduceToInt] at *; omega)) (fun v15 ev15 => ?_)
          refine ok_gC rfl ?_
          refine ok_zbT (Q := fun V σ => 2 ≤ (σ.1 111 8).toInt ∧ (σ.1 111 8).toInt ≤ 1600) hT (s_X1_node hN (hR.tr hT) (by first | omega | decide | (simp only [Int32.le_iff_toInt_le, Int32.lt_iff_toInt_lt, ti_add, ti_sub, ti_mul, Int32.reduceToInt] at *; omega))) (by decide) (fun v16 σ17 hOσ17 hT hqv16 => ?_)
          have hqv16 : 2 ≤ (σ17.1 111 8).toInt ∧ (σ17.1 111 8).toInt ≤ 1600 := hqv16
          have hu : 2 ≤ (σ17.1 111 8).toInt ∧ (σ17.1 111 8).toInt ≤ 1600 := hqv16
          refine ok_s14 hT rfl (by decide) (by first | omega | decide | (simp only [Int32.le_iff_toInt_le, Int32.lt_iff_toInt_lt, ti_add, ti_sub, ti_mul, Int32.reduceToInt] at *; omega)) (by first | omega | decide | (simp only [Int32.le_iff_toInt_le, Int32.lt_iff_toInt_lt, ti_add, ti_sub, ti_mul, Int32.reduceToInt] at *; omega)) (fun σ18 eσ18 hOσ18 hT => ?_)
          have hu : 2 ≤ (σ18.1 111 8).toInt ∧ (σ18.1 111 8).toInt ≤ 1600 := by rw [hOσ18.2 111 (by decide)] <;> exact hu
          exact ih72_5 (x5_5 + 1, σ18) (show Tr [111, 112, 113, 114, 115, 116, 118, 119] σ0 σ18 ∧ (0 ≤ (x5_5 + 1).toInt) ∧ (2 ≤ (σ18.1 111 8).toInt ∧ (σ18.1 111 8).toInt ≤ 1600) from ⟨hT, (by first | omega | decide | (simp only [Int32.le_iff_toInt_le, Int32.lt_iff_toInt_lt, ti_add, ti_sub, ti_mul, Int32.reduceToInt] at *; omega)), hu⟩) (show (((1 : Int32) <<< (x4_3 &&& 31)).toInt - (x5_5 + 1).toInt).toNat < (((1 : Int32) <<< (x4_3 &&& 31)).toInt - x5_5.toInt).toNat from (by first | omega | decide | (simp only [Int32.le_iff_toInt_le, Int32.lt_iff_toInt_lt, ti_add, ti_sub, ti_mul, Int32.reduceToInt] at *; omega)))
  · refine ok_gR (v := 118) hT rfl (hR 111 6 rfl) ?_
    refine ok_gR (v := 117) hT rfl (hR 111 5 rfl) ?_
    refine ok_aIn rfl (by first | omega | decide | (simp only [Int32.le_iff_toInt_le, Int32.lt_iff_toInt_lt, ti_add, ti_sub, ti_mul, Int32.reduceToInt] at *; omega)) (by first | omega | decide | (simp only [Int32.le_iff_toInt_le, Int32.lt_iff_toInt_lt, ti_add, ti_sub, ti_mul, Int32.reduceToInt] at *; omega)) (fun v21 ev21 => ?_)
    refine ok_gC h_x1 ?_
    refine ok_zbT (Q := fun V σ => V = 0 ∨ V = 1) hT (s_X2_holds hN (hR.tr hT) h_x1) (fun _ h9 => absurd h9 List.not_mem_nil) (fun v22 σ23 hOσ23 hT hqv22 => ?_)
    have hqv22 : v22 = 0 ∨ v22 = 1 := hqv22
    have hu : 2 ≤ (σ23.1 111 8).toInt ∧ (σ23.1 111 8).toInt ≤ 1600 := by rw [hOσ23.2 111 (by decide)] <;> exact hu
    refine ok_if (fun hc24 => ?_) (fun hc24 => ?_)
    · refine ok_s14 hT rfl (by decide) (by first | omega | decide | (simp only [Int32.le_iff_toInt_le, Int32.lt_iff_toInt_lt, ti_add, ti_sub, ti_mul, Int32.reduceToInt] at *; omega)) (by first | omega | decide | (simp only [Int32.le_iff_toInt_le, Int32.lt_iff_toInt_lt, ti_add, ti_sub, ti_mul, Int32.reduceToInt] at *; omega)) (fun σ25 eσ25 hOσ25 hT => ?_)
      have hu : 2 ≤ (σ25.1 111 8).toInt ∧ (σ25.1 111 8).toInt ≤ 1600 := by rw [hOσ25.2 111 (by decide)] <;> exact hu
      exact ih16_1 (x4_1 + 1, σ25) (show Tr [111, 112, 113, 114, 115, 116, 118, 119] σ0 σ25 ∧ (0 ≤ (x4_1 + 1).toInt) ∧ (2 ≤ (σ25.1 111 8).toInt ∧ (σ25.1 111 8).toInt ≤ 1600) from ⟨hT, (by first | omega | decide | (simp only [Int32.le_iff_toInt_le, Int32.lt_iff_toInt_lt, ti_add, ti_sub, ti_mul, Int32.reduceToInt] at *; omega)), hu⟩) (show (((1 : Int32) <<< ((zmax 0 (zmin 10 x2)) &&& 31)).toInt - (x4_1 + 1).toInt).toNat < (((1 : Int32) <<< ((zmax 0 (zmin 10 x2)) &&& 31)).toInt - x4_1.toInt).toNat from (by first | omega | decide | (simp only [Int32.le_iff_toInt_le, Int32.lt_iff_toInt_lt, ti_add, ti_sub, ti_mul, Int32.reduceToInt] at *; omega)))
    · refine ok_s14 hT rfl (by decide) (by first | omega | decide | (simp only [Int32.le_iff_toInt_le, Int32.lt_iff_toInt_lt, ti_add, ti_sub, ti_mul, Int32.reduceToInt] at *; omega)) (by first | omega | decide | (simp only [Int32.le_iff_toInt_le, Int32.lt_iff_toInt_lt, ti_add, ti_sub, ti_mul, Int32.reduceToInt] at *; omega)) (fun σ26 eσ26 hOσ26 hT => ?_)
      have hu : 2 ≤ (σ26.1 111 8).toInt ∧ (σ26.1 111 8).toInt ≤ 1600 := by rw [hOσ26.2 111 (by decide)] <;> exact hu
      exact ih16_1 (x4_1 + 1, σ26) (show Tr [111, 112, 113, 114, 115, 116, 118, 119] σ0 σ26 ∧ (0 ≤ (x4_1 + 1).toInt) ∧ (2 ≤ (σ26.1 111 8).toInt ∧ (σ26.1 111 8).toInt ≤ 1600) from ⟨hT, (by first | omega | decide | (simp only [Int32.le_iff_toInt_le, Int32.lt_iff_toInt_lt, ti_add, ti_sub, ti_mul, Int32.reduceToInt] at *; omega)), hu⟩) (show (((1 : Int32) <<< ((zmax 0 (zmin 10 x2)) &&& 31)).toInt - (x4_1 + 1).toInt).toNat < (((1 : Int32) <<< ((zmax 0 (zmin 10 x2)) &&& 31)).toInt - x4_1.toInt).toNat from (by first | omega | decide | (simp only [Int32.le_iff_toInt_le, Int32.lt_iff_toInt_lt, ti_add, ti_sub, ti_mul, Int32.reduceToInt] at *; omega)))

set_option maxHeartbeats 4000000 in
set_option maxRecDepth 100000 in
theorem s_X1_spread_2 {N : Nat} (hN : 1048576 ≤ N)  {σ0 : zS}  (hR : RF σ0.2.2) (hn : 0 ≤ (σ0.1 2 0).toInt ∧ (σ0.1 2 0).toInt ≤ 10) : Ok (f_X1_spread N 111 2 σ0) (fun r => Tr [117] σ0 r.2 ∧ (True)) := by
  have hT : Tr [117] σ0 σ0 := Tr.rf
  rw [f_X1_spread.eq_1]
  refine ok_gR (v := 117) hT rfl (hR 111 5 rfl) ?_
  refine ok_s14 hT rfl (by decide) (by first | omega | decide | (simp only [Int32.le_iff_toInt_le, Int32.lt_iff_toInt_lt, ti_add, ti_sub, ti_mul, Int32.reduceToInt] at *; omega)) (by first | omega | decide | (simp only [Int32.le_iff_toInt_le, Int32.lt_iff_toInt_lt, ti_add, ti_sub, ti_mul, Int32.reduceToInt] at *; omega)) (fun σ2 eσ2 hOσ2 hT => ?_)
  refine ok_lp (fun t : Int32 × zS => Tr [117] σ0 (t.2) ∧ (0 ≤ (t.1).toInt)) (fun t : Int32 × zS => (10 - (t.1).toInt).toNat) (fun again3 t hI ih9_3 => ?_) N _ (show Tr [117] σ0 σ2 ∧ (0 ≤ (0 : Int32).toInt) from ⟨hT, (by first | omega | decide | (simp only [Int32.le_iff_toInt_le, Int32.lt_iff_toInt_lt, ti_add, ti_sub, ti_mul, Int32.reduceToInt] at *; omega))⟩) (show (10 - (0 : Int32).toInt).toNat < N from (by first | omega | decide | (simp only [Int32.le_iff_toInt_le, Int32.lt_iff_toInt_lt, ti_add, ti_sub, ti_mul, Int32.reduceToInt] at *; omega)))
  obtain ⟨x2_3, σ3⟩ := t
  have hI : Tr [117] σ0 σ3 ∧ (0 ≤ x2_3.toInt) := hI
  obtain ⟨hT, hI3⟩ := hI
  rw [F_X1_spread_9.eq_1]
  refine ok_gI0 hT rfl (by decide) ?_
  refine ok_if (fun hc5 => ?_) (fun hc5 => ?_)
  · exact ok_some ⟨hT, trivial⟩
  · refine ok_if (fun hc6 => ?_) (fun hc6 => ?_)
    · exact ok_some ⟨hT, trivial⟩
    · have q9 := ti_one9 (x := x2_3) (by simp only [Int32.le_iff_toInt_le, Int32.lt_iff_toInt_lt, Int32.reduceToInt] at *; omega) (by simp only [Int32.le_iff_toInt_le, Int32.lt_iff_toInt_lt, Int32.reduceToInt] at *; omega)
      refine ok_gR (v := 6) hT rfl (hR 2 6 rfl) ?_
      refine ok_gI0 hT rfl (by decide) ?_
      refine ok_aIn rfl (by first | omega | decide | (simp only [Int32.le_iff_toInt_le, Int32.lt_iff_toInt_lt, ti_add, ti_sub, ti_mul, Int32.reduceToInt] at *; omega)) (by first | omega | decide | (simp only [Int32.le_iff_toInt_le, Int32.lt_iff_toInt_lt, ti_add, ti_sub, ti_mul, Int32.reduceToInt] at *; omega)) (fun v9 ev9 => ?_)
      refine ok_lp (fun t : Int32 × zS => Tr [117] σ0 (t.2) ∧ (0 ≤ (t.1).toInt)) (fun t : Int32 × zS => (((1 : Int32) <<< (x2_3 &&& 31)).toInt - (t.1).toInt).toNat) (fun again10 t hI ih47_10 => ?_) N _ (show Tr [117] σ0 σ3 ∧ (0 ≤ (0 : Int32).toInt) from ⟨hT, (by first | omega | decide | (simp only [Int32.le_iff_toInt_le, Int32.lt_iff_toInt_lt, ti_add, ti_sub, ti_mul, Int32.reduceToInt] at *; omega))⟩) (show (((1 : Int32) <<< (x2_3 &&& 31)).toInt - (0 : Int32).toInt).toNat < N from (by first | omega | decide | (simp only [Int32.le_iff_toInt_le, Int32.lt_iff_toInt_lt, ti_add, ti_sub, ti_mul, Int32.reduceToInt] at *; omega)))
      obtain ⟨x5_10, σ10⟩ := t
      have hI : Tr [117] σ0 σ10 ∧ (0 ≤ x5_10.toInt) := hI
      obtain ⟨hT, hI10⟩ := hI
      rw [F_X1_spread_47.eq_1]
      refine ok_if (fun hc11 => ?_) (fun hc11 => ?_)
      · exact ih9_3 (x2_3 + 1, σ10) (show Tr [117] σ0 σ10 ∧ (0 ≤ (x2_3 + 1).toInt) from ⟨hT, (by first | omega | decide | (simp only [Int32.le_iff_toInt_le, Int32.lt_iff_toInt_lt, ti_add, ti_sub, ti_mul, Int32.reduceToInt] at *; omega))⟩) (show (10 - (x2_3 + 1).toInt).toNat < (10 - x2_3.toInt).toNat from (by first | omega | decide | (simp only [Int32.le_iff_toInt_le, Int32.lt_iff_toInt_lt, ti_add, ti_sub, ti_mul, Int32.reduceToInt] at *; omega)))
      · refine ok_gR (v := 117) hT rfl (hR 111 5 rfl) ?_
        refine ok_gR (v := 117) hT rfl (hR 111 5 rfl) ?_
        refine ok_aIn rfl (by first | omega | decide | (simp only [Int32.le_iff_toInt_le, Int32.lt_iff_toInt_lt, ti_add, ti_sub, ti_mul, Int32.reduceToInt] at *; omega)) (by first | omega | decide | (simp only [Int32.le_iff_toInt_le, Int32.lt_iff_toInt_lt, ti_add, ti_sub, ti_mul, Int32.reduceToInt] at *; omega)) (fun v14 ev14 => ?_)
        refine ok_s14 hT rfl (by decide) (by first | omega | decide | (simp only [Int32.le_iff_toInt_le, Int32.lt_iff_toInt_lt, ti_add, ti_sub, ti_mul, Int32.reduceToInt] at *; omega)) (by first | omega | decide | (simp only [Int32.le_iff_toInt_le, Int32.lt_iff_toInt_lt, ti_add, ti_sub, ti_mul, Int32.reduceToInt] at *; omega)) (fun σ15 eσ15 hOσ15 hT => ?_)
        exact ih47_10 (x5_10 + 1, σ15) (show Tr [117] σ0 σ15 ∧ (0 ≤ (x5_10 + 1).toInt) from ⟨hT, (by first | omega | decide | (simp only [Int32.le_iff_toInt_le, Int32.lt_iff_toInt_lt, ti_add, ti_sub, ti_mul, Int32.reduceToInt] at *; omega))⟩) (show (((1 : Int32) <<< (x2_3 &&& 31)).toInt - (x5_10 + 1).toInt).toNat < (((1 : Int32) <<< (x2_3 &&& 31)).toInt - x5_10.toInt).toNat from (by first | omega | decide | (simp only [Int32.le_iff_toInt_le, Int32.lt_iff_toInt_lt, ti_add, ti_sub, ti_mul, Int32.reduceToInt] at *; omega)))

set_option maxHeartbeats 4000000 in
set_option maxRecDepth 100000 in
theorem s_X1_tallyOf_2 {N : Nat} (hN : 1048576 ≤ N) {x2 : Nat} {σ0 : zS}  (hR : RF σ0.2.2) (h_x2 : (zKd x2).1 = 2) (hu : 2 ≤ (σ0.1 111 8).toInt ∧ (σ0.1 111 8).toInt ≤ 1600) (hn : 0 ≤ (σ0.1 2 0).toInt ∧ (σ0.1 2 0).toInt ≤ 10) : Ok (f_X1_tallyOf N 111 2 x2 σ0) (fun r => Tr [111, 112, 113, 114, 115, 116, 117, 118, 119] σ0 r.2 ∧ (2 ≤ (r.2.1 111 8).toInt ∧ (r.2.1 111 8).toInt ≤ 1600)) := by
  have hT : Tr [111, 112, 113, 114, 115, 116, 117, 118, 119] σ0 σ0 := Tr.rf
  rw [f_X1_tallyOf.eq_1]
  refine ok_gC rfl ?_
  refine ok_zbT (Q := fun V σ => 2 ≤ (σ.1 111 8).toInt ∧ (σ.1 111 8).toInt ≤ 1600) hT (s_X1_reset hN (hR.tr hT) (by first | omega | decide | (simp only [Int32.le_iff_toInt_le, Int32.lt_iff_toInt_lt, ti_add, ti_sub, ti_mul, Int32.reduceToInt] at *; omega))) (by decide) (fun v1 σ2 hOσ2 hT hqv1 => ?_)
  have hqv1 : 2 ≤ (σ2.1 111 8).toInt ∧ (σ2.1 111 8).toInt ≤ 1600 := hqv1
  have hu : 2 ≤ (σ2.1 111 8).toInt ∧ (σ2.1 111 8).toInt ≤ 1600 := hqv1
  refine ok_gC rfl ?_
  refine ok_zbT (Q := fun V σ => True) hT (s_X1_spread_2 hN (hR.tr hT) (by first | exact hn | (rw [hT.2 2 (by decide)]; exact hn))) (by decide) (fun v3 σ4 hOσ4 hT hqv3 => ?_)
  have hu : 2 ≤ (σ4.1 111 8).toInt ∧ (σ4.1 111 8).toInt ≤ 1600 := by rw [hOσ4.2 111 (by decide)] <;> exact hu
  refine ok_gI0 hT rfl (by decide) ?_
  refine ok_gC rfl ?_
  refine ok_zbT (Q := fun V σ => 2 ≤ (σ.1 111 8).toInt ∧ (σ.1 111 8).toInt ≤ 1600) hT (s_X1_grow hN (hR.tr hT) h_x2 (by first | omega | decide | (simp only [Int32.le_iff_toInt_le, Int32.lt_iff_toInt_lt, ti_add, ti_sub, ti_mul, Int32.reduceToInt] at *; omega)) (by first | exact hn | (rw [hT.2 2 (by decide)]; exact hn))) (by decide) (fun v6 σ7 hOσ7 hT hqv6 => ?_)
  have hqv6 : 2 ≤ (σ7.1 111 8).toInt ∧ (σ7.1 111 8).toInt ≤ 1600 := hqv6
  have hu : 2 ≤ (σ7.1 111 8).toInt ∧ (σ7.1 111 8).toInt ≤ 1600 := hqv6
  refine ok_gI rfl ?_
  exact ok_some ⟨hT, (show 2 ≤ (σ7.1 111 8).toInt ∧ (σ7.1 111 8).toInt ≤ 1600 from by exact hu)⟩

set_option maxHeartbeats 4000000 in
set_option maxRecDepth 100000 in
theorem s_X1_tallyOfAll_2 {N : Nat} (hN : 1048576 ≤ N)  {σ0 : zS}  (hR : RF σ0.2.2) (hu : 2 ≤ (σ0.1 111 8).toInt ∧ (σ0.1 111 8).toInt ≤ 1600) (hn : 0 ≤ (σ0.1 2 0).toInt ∧ (σ0.1 2 0).toInt ≤ 10) : Ok (f_X1_tallyOfAll N 111 2 σ0) (fun r => Tr [111, 112, 113, 114, 115, 116, 117, 118, 119] σ0 r.2 ∧ (2 ≤ (r.2.1 111 8).toInt ∧ (r.2.1 111 8).toInt ≤ 1600)) := by
  have hT : Tr [111, 112, 113, 114, 115, 116, 117, 118, 119] σ0 σ0 := Tr.rf
  rw [f_X1_tallyOfAll.eq_1]
  refine ok_gC rfl ?_
  refine ok_zbT (Q := fun V σ => 2 ≤ (σ.1 111 8).toInt ∧ (σ.1 111 8).toInt ≤ 1600) hT (s_X1_reset hN (hR.tr hT) (by first | omega | decide | (simp only [Int32.le_iff_toInt_le, Int32.lt_iff_toInt_lt, ti_add, ti_sub, ti_mul, Int32.reduceToInt] at *; omega))) (by decide) (fun v1 σ2 hOσ2 hT hqv1 => ?_)
  have hqv1 : 2 ≤ (σ2.1 111 8).toInt ∧ (σ2.1 111 8).toInt ≤ 1600 := hqv1
  have hu : 2 ≤ (σ2.1 111 8).toInt ∧ (σ2.1 111 8).toInt ≤ 1600 := hqv1
  refine ok_gC rfl ?_
  refine ok_zbT (Q := fun V σ => True) hT (s_X1_spread_2 hN (hR.tr hT) (by first | exact hn | (rw [hT.2 2 (by decide)]; exact hn))) (by decide) (fun v3 σ4 hOσ4 hT hqv3 => ?_)
  have hu : 2 ≤ (σ4.1 111 8).toInt ∧ (σ4.1 111 8).toInt ≤ 1600 := by rw [hOσ4.2 111 (by decide)] <;> exact hu
  refine ok_lp (fun t : Int32 × zS => Tr [111, 112, 113, 114, 115, 116, 117, 118, 119] σ0 (t.2) ∧ (0 ≤ (t.1).toInt) ∧ (2 ≤ ((t.2).1 111 8).toInt ∧ ((t.2).1 111 8).toInt ≤ 1600)) (fun t : Int32 × zS => ((10 : Int32).toInt - (t.1).toInt).toNat) (fun again5 t hI ih11_5 => ?_) N _ (show Tr [111, 112, 113, 114, 115, 116, 117, 118, 119] σ0 σ4 ∧ (0 ≤ (0 : Int32).toInt) ∧ (2 ≤ (σ4.1 111 8).toInt ∧ (σ4.1 111 8).toInt ≤ 1600) from ⟨hT, (by first | omega | decide | (simp only [Int32.le_iff_toInt_le, Int32.lt_iff_toInt_lt, ti_add, ti_sub, ti_mul, Int32.reduceToInt] at *; omega)), hu⟩) (show ((10 : Int32).toInt - (0 : Int32).toInt).toNat < N from (by first | omega | decide | (simp only [Int32.le_iff_toInt_le, Int32.lt_iff_toInt_lt, ti_add, ti_sub, ti_mul, Int32.reduceToInt] at *; omega)))
  obtain ⟨x2_5, σ5⟩ := t
  have hI : Tr [111, 112, 113, 114, 115, 116, 117, 118, 119] σ0 σ5 ∧ (0 ≤ x2_5.toInt) ∧ (2 ≤ (σ5.1 111 8).toInt ∧ (σ5.1 111 8).toInt ≤ 1600) := hI
  obtain ⟨hT, hI5, hu⟩ := hI
  rw [F_X1_tallyOfAll_11.eq_1]
  refine ok_if (fun hc6 => ?_) (fun hc6 => ?_)
  · refine ok_gI rfl ?_
    exact ok_some ⟨hT, (show 2 ≤ (σ5.1 111 8).toInt ∧ (σ5.1 111 8).toInt ≤ 1600 from by exact hu)⟩
  · refine ok_gC rfl ?_
    refine ok_zbT (Q := fun V σ => True) hT (s_X10_firstLike_2 hN (hR.tr hT) (by first | omega | decide | (simp only [Int32.le_iff_toInt_le, Int32.lt_iff_toInt_lt, ti_add, ti_sub, ti_mul, Int32.reduceToInt] at *; omega))) (fun _ h9 => absurd h9 List.not_mem_nil) (fun v8 σ9 hOσ9 hT hqv8 => ?_)
    have hu : 2 ≤ (σ9.1 111 8).toInt ∧ (σ9.1 111 8).toInt ≤ 1600 := by rw [hOσ9.2 111 (by decide)] <;> exact hu
    refine ok_if (fun hc10 => ?_) (fun hc10 => ?_)
    · refine ok_gR (v := 7) hT rfl (hR 2 7 rfl) ?_
      obtain ⟨q13, eq13, kq13⟩ := arrF hR (k := 7) (i := x2_5) rfl (by first | omega | decide | (simp only [Int32.le_iff_toInt_le, Int32.lt_iff_toInt_lt, ti_add, ti_sub, ti_mul, Int32.reduceToInt] at *; omega)) (by first | omega | decide | (simp only [Int32.le_iff_toInt_le, Int32.lt_iff_toInt_lt, ti_add, ti_sub, ti_mul, Int32.reduceToInt] at *; omega))
      refine ok_aR (v := q13) hT rfl (by first | omega | decide | (simp only [Int32.le_iff_toInt_le, Int32.lt_iff_toInt_lt, ti_add, ti_sub, ti_mul, Int32.reduceToInt] at *; omega)) (by first | omega | decide | (simp only [Int32.le_iff_toInt_le, Int32.lt_iff_toInt_lt, ti_add, ti_sub, ti_mul, Int32.reduceToInt] at *; omega)) eq13 ?_
      refine ok_gI0 hT rfl (by decide) ?_
      refine ok_gC rfl ?_
      refine ok_zbT (Q := fun V σ => 2 ≤ (σ.1 111 8).toInt ∧ (σ.1 111 8).toInt ≤ 1600) hT (s_X1_grow hN (hR.tr hT) kq13 (by first | omega | decide | (simp only [Int32.le_iff_toInt_le, Int32.lt_iff_toInt_lt, ti_add, ti_sub, ti_mul, Int32.reduceToInt] at *; omega)) (by first | exact hn | (rw [hT.2 2 (by decide)]; exact hn))) (by decide) (fun v15 σ16 hOσ16 hT hqv15 => ?_)
      have hqv15 : 2 ≤ (σ16.1 111 8).toInt ∧ (σ16.1 111 8).toInt ≤ 1600 := hqv15
      have hu : 2 ≤ (σ16.1 111 8).toInt ∧ (σ16.1 111 8).toInt ≤ 1600 := hqv15
      exact ih11_5 (x2_5 + 1, σ16) (show Tr [111, 112, 113, 114, 115, 116, 117, 118, 119] σ0 σ16 ∧ (0 ≤ (x2_5 + 1).toInt) ∧ (2 ≤ (σ16.1 111 8).toInt ∧ (σ16.1 111 8).toInt ≤ 1600) from ⟨hT, (by first | omega | decide | (simp only [Int32.le_iff_toInt_le, Int32.lt_iff_toInt_lt, ti_add, ti_sub, ti_mul, Int32.reduceToInt] at *; omega)), hu⟩) (show ((10 : Int32).toInt - (x2_5 + 1).toInt).toNat < ((10 : Int32).toInt - x2_5.toInt).toNat from (by first | omega | decide | (simp only [Int32.le_iff_toInt_le, Int32.lt_iff_toInt_lt, ti_add, ti_sub, ti_mul, Int32.reduceToInt] at *; omega)))
    · exact ih11_5 (x2_5 + 1, σ9) (show Tr [111, 112, 113, 114, 115, 116, 117, 118, 119] σ0 σ9 ∧ (0 ≤ (x2_5 + 1).toInt) ∧ (2 ≤ (σ9.1 111 8).toInt ∧ (σ9.1 111 8).toInt ≤ 1600) from ⟨hT, (by first | omega | decide | (simp only [Int32.le_iff_toInt_le, Int32.lt_iff_toInt_lt, ti_add, ti_sub, ti_mul, Int32.reduceToInt] at *; omega)), hu⟩) (show ((10 : Int32).toInt - (x2_5 + 1).toInt).toNat < ((10 : Int32).toInt - x2_5.toInt).toNat from (by first | omega | decide | (simp only [Int32.le_iff_toInt_le, Int32.lt_iff_toInt_lt, ti_add, ti_sub, ti_mul, Int32.reduceToInt] at *; omega)))

set_option maxHeartbeats 4000000 in
set_option maxRecDepth 100000 in
theorem s_X1_spread_28 {N : Nat} (hN : 1048576 ≤ N)  {σ0 : zS}  (hR : RF σ0.2.2) (hn : 0 ≤ (σ0.1 28 0).toInt ∧ (σ0.1 28 0).toInt ≤ 10) : Ok (f_X1_spread N 111 28 σ0) (fun r => Tr [117] σ0 r.2 ∧ (True)) := by
  have hT : Tr [117] σ0 σ0 := Tr.rf
  rw [f_X1_spread.eq_1]
  refine ok_gR (v := 117) hT rfl (hR 111 5 rfl) ?_
  refine ok_s14 hT rfl (by decide) (by first | omega | decide | (simp only [Int32.le_iff_toInt_le, Int32.lt_iff_toInt_lt, ti_add, ti_sub, ti_mul, Int32.reduceToInt] at *; omega)) (by first | omega | decide | (simp only [Int32.le_iff_toInt_le, Int32.lt_iff_toInt_lt, ti_add, ti_sub, ti_mul, Int32.reduceToInt] at *; omega)) (fun σ2 eσ2 hOσ2 hT => ?_)
  refine ok_lp (fun t : Int32 × zS => Tr [117] σ0 (t.2) ∧ (0 ≤ (t.1).toInt)) (fun t : Int32 × zS => (10 - (t.1).toInt).toNat) (fun again3 t hI ih9_3 => ?_) N _ (show Tr [117] σ0 σ2 ∧ (0 ≤ (0 : Int32).toInt) from ⟨hT, (by first | omega | decide | (simp only [Int32.le_iff_toInt_le, Int32.lt_iff_toInt_lt, ti_add, ti_sub, ti_mul, Int32.reduceToInt] at *; omega))⟩) (show (10 - (0 : Int32).toInt).toNat < N from (by first | omega | decide | (simp only [Int32.le_iff_toInt_le, Int32.lt_iff_toInt_lt, ti_add, ti_sub, ti_mul, Int32.reduceToInt] at *; omega)))
  obtain ⟨x2_3, σ3⟩ := t
  have hI : Tr [117] σ0 σ3 ∧ (0 ≤ x2_3.toInt) := hI
  obtain ⟨hT, hI3⟩ := hI
  rw [F_X1_spread_9.eq_1]
  refine ok_gI0 hT rfl (by decide) ?_
  refine ok_if (fun hc5 => ?_) (fun hc5 => ?_)
  · exact ok_some ⟨hT, trivial⟩
  · refine ok_if (fun hc6 => ?_) (fun hc6 => ?_)
    · exact ok_some ⟨hT, trivial⟩
    · have q9 := ti_one9 (x := x2_3) (by simp only [Int32.le_iff_toInt_le, Int32.lt_iff_toInt_lt, Int32.reduceToInt] at *; omega) (by simp only [Int32.le_iff_toInt_le, Int32.lt_iff_toInt_lt, Int32.reduceToInt] at *; omega)
      refine ok_gR (v := 32) hT rfl (hR 28 6 rfl) ?_
      refine ok_gI0 hT rfl (by decide) ?_
      refine ok_aIn rfl (by first | omega | decide | (simp only [Int32.le_iff_toInt_le, Int32.lt_iff_toInt_lt, ti_add, ti_sub, ti_mul, Int32.reduceToInt] at *; omega)) (by first | omega | decide | (simp only [Int32.le_iff_toInt_le, Int32.lt_iff_toInt_lt, ti_add, ti_sub, ti_mul, Int32.reduceToInt] at *; omega)) (fun v9 ev9 => ?_)
      refine ok_lp (fun t : Int32 × zS => Tr [117] σ0 (t.2) ∧ (0 ≤ (t.1).toInt)) (fun t : Int32 × zS => (((1 : Int32) <<< (x2_3 &&& 31)).toInt - (t.1).toInt).toNat) (fun again10 t hI ih47_10 => ?_) N _ (show Tr [117] σ0 σ3 ∧ (0 ≤ (0 : Int32).toInt) from ⟨hT, (by first | omega | decide | (simp only [Int32.le_iff_toInt_le, Int32.lt_iff_toInt_lt, ti_add, ti_sub, ti_mul, Int32.reduceToInt] at *; omega))⟩) (show (((1 : Int32) <<< (x2_3 &&& 31)).toInt - (0 : Int32).toInt).toNat < N from (by first | omega | decide | (simp only [Int32.le_iff_toInt_le, Int32.lt_iff_toInt_lt, ti_add, ti_sub, ti_mul, Int32.reduceToInt] at *; omega)))
      obtain ⟨x5_10, σ10⟩ := t
      have hI : Tr [117] σ0 σ10 ∧ (0 ≤ x5_10.toInt) := hI
      obtain ⟨hT, hI10⟩ := hI
      rw [F_X1_spread_47.eq_1]
      refine ok_if (fun hc11 => ?_) (fun hc11 => ?_)
      · exact ih9_3 (x2_3 + 1, σ10) (show Tr [117] σ0 σ10 ∧ (0 ≤ (x2_3 + 1).toInt) from ⟨hT, (by first | omega | decide | (simp only [Int32.le_iff_toInt_le, Int32.lt_iff_toInt_lt, ti_add, ti_sub, ti_mul, Int32.reduceToInt] at *; omega))⟩) (show (10 - (x2_3 + 1).toInt).toNat < (10 - x2_3.toInt).toNat from (by first | omega | decide | (simp only [Int32.le_iff_toInt_le, Int32.lt_iff_toInt_lt, ti_add, ti_sub, ti_mul, Int32.reduceToInt] at *; omega)))
      · refine ok_gR (v := 117) hT rfl (hR 111 5 rfl) ?_
        refine ok_gR (v := 117) hT rfl (hR 111 5 rfl) ?_
        refine ok_aIn rfl (by first | omega | decide | (simp only [Int32.le_iff_toInt_le, Int32.lt_iff_toInt_lt, ti_add, ti_sub, ti_mul, Int32.reduceToInt] at *; omega)) (by first | omega | decide | (simp only [Int32.le_iff_toInt_le, Int32.lt_iff_toInt_lt, ti_add, ti_sub, ti_mul, Int32.reduceToInt] at *; omega)) (fun v14 ev14 => ?_)
        refine ok_s14 hT rfl (by decide) (by first | omega | decide | (simp only [Int32.le_iff_toInt_le, Int32.lt_iff_toInt_lt, ti_add, ti_sub, ti_mul, Int32.reduceToInt] at *; omega)) (by first | omega | decide | (simp only [Int32.le_iff_toInt_le, Int32.lt_iff_toInt_lt, ti_add, ti_sub, ti_mul, Int32.reduceToInt] at *; omega)) (fun σ15 eσ15 hOσ15 hT => ?_)
        exact ih47_10 (x5_10 + 1, σ15) (show Tr [117] σ0 σ15 ∧ (0 ≤ (x5_10 + 1).toInt) from ⟨hT, (by first | omega | decide | (simp only [Int32.le_iff_toInt_le, Int32.lt_iff_toInt_lt, ti_add, ti_sub, ti_mul, Int32.reduceToInt] at *; omega))⟩) (show (((1 : Int32) <<< (x2_3 &&& 31)).toInt - (x5_10 + 1).toInt).toNat < (((1 : Int32) <<< (x2_3 &&& 31)).toInt - x5_10.toInt).toNat from (by first | omega | decide | (simp only [Int32.le_iff_toInt_le, Int32.lt_iff_toInt_lt, ti_add, ti_sub, ti_mul, Int32.reduceToInt] at *; omega)))

set_option maxHeartbeats 4000000 in
set_option maxRecDepth 100000 in
theorem s_X1_tallyOf_28 {N : Nat} (hN : 1048576 ≤ N) {x2 : Nat} {σ0 : zS}  (hR : RF σ0.2.2) (h_x2 : (zKd x2).1 = 2) (hu : 2 ≤ (σ0.1 111 8).toInt ∧ (σ0.1 111 8).toInt ≤ 1600) (hn : 0 ≤ (σ0.1 28 0).toInt ∧ (σ0.1 28 0).toInt ≤ 10) : Ok (f_X1_tallyOf N 111 28 x2 σ0) (fun r => Tr [111, 112, 113, 114, 115, 116, 117, 118, 119] σ0 r.2 ∧ (2 ≤ (r.2.1 111 8).toInt ∧ (r.2.1 111 8).toInt ≤ 1600)) := by
  have hT : Tr [111, 112, 113, 114, 115, 116, 117, 118, 119] σ0 σ0 := Tr.rf
  rw [f_X1_tallyOf.eq_1]
  refine ok_gC rfl ?_
  refine ok_zbT (Q := fun V σ => 2 ≤ (σ.1 111 8).toInt ∧ (σ.1 111 8).toInt ≤ 1600) hT (s_X1_reset hN (hR.tr hT) (by first | omega | decide | (simp only [Int32.le_iff_toInt_le, Int32.lt_iff_toInt_lt, ti_add, ti_sub, ti_mul, Int32.reduceToInt] at *; omega))) (by decide) (fun v1 σ2 hOσ2 hT hqv1 => ?_)
  have hqv1 : 2 ≤ (σ2.1 111 8).toInt ∧ (σ2.1 111 8).toInt ≤ 1600 := hqv1
  have hu : 2 ≤ (σ2.1 111 8).toInt ∧ (σ2.1 111 8).toInt ≤ 1600 := hqv1
  refine ok_gC rfl ?_
  refine ok_zbT (Q := fun V σ => True) hT (s_X1_spread_28 hN (hR.tr hT) (by first | exact hn | (rw [hT.2 28 (by decide)]; exact hn))) (by decide) (fun v3 σ4 hOσ4 hT hqv3 => ?_)
  have hu : 2 ≤ (σ4.1 111 8).toInt ∧ (σ4.1 111 8).toInt ≤ 1600 := by rw [hOσ4.2 111 (by decide)] <;> exact hu
  refine ok_gI0 hT rfl (by decide) ?_
  refine ok_gC rfl ?_
  refine ok_zbT (Q := fun V σ => 2 ≤ (σ.1 111 8).toInt ∧ (σ.1 111 8).toInt ≤ 1600) hT (s_X1_grow hN (hR.tr hT) h_x2 (by first | omega | decide | (simp only [Int32.le_iff_toInt_le, Int32.lt_iff_toInt_lt, ti_add, ti_sub, ti_mul, Int32.reduceToInt] at *; omega)) (by first | exact hn | (rw [hT.2 28 (by decide)]; exact hn))) (by decide) (fun v6 σ7 hOσ7 hT hqv6 => ?_)
  have hqv6 : 2 ≤ (σ7.1 111 8).toInt ∧ (σ7.1 111 8).toInt ≤ 1600 := hqv6
  have hu : 2 ≤ (σ7.1 111 8).toInt ∧ (σ7.1 111 8).toInt ≤ 1600 := hqv6
  refine ok_gI rfl ?_
  exact ok_some ⟨hT, (show 2 ≤ (σ7.1 111 8).toInt ∧ (σ7.1 111 8).toInt ≤ 1600 from by exact hu)⟩

set_option maxHeartbeats 4000000 in
set_option maxRecDepth 100000 in
theorem s_X1_tallyOfAll_28 {N : Nat} (hN : 1048576 ≤ N)  {σ0 : zS}  (hR : RF σ0.2.2) (hu : 2 ≤ (σ0.1 111 8).toInt ∧ (σ0.1 111 8).toInt ≤ 1600) (hn : 0 ≤ (σ0.1 28 0).toInt ∧ (σ0.1 28 0).toInt ≤ 10) : Ok (f_X1_tallyOfAll N 111 28 σ0) (fun r => Tr [111, 112, 113, 114, 115, 116, 117, 118, 119] σ0 r.2 ∧ (2 ≤ (r.2.1 111 8).toInt ∧ (r.2.1 111 8).toInt ≤ 1600)) := by
  have hT : Tr [111, 112, 113, 114, 115, 116, 117, 118, 119] σ0 σ0 := Tr.rf
  rw [f_X1_tallyOfAll.eq_1]
  refine ok_gC rfl ?_
  refine ok_zbT (Q := fun V σ => 2 ≤ (σ.1 111 8).toInt ∧ (σ.1 111 8).toInt ≤ 1600) hT (s_X1_reset hN (hR.tr hT) (by first | omega | decide | (simp only [Int32.le_iff_toInt_le, Int32.lt_iff_toInt_lt, ti_add, ti_sub, ti_mul, Int32.reduceToInt] at *; omega))) (by decide) (fun v1 σ2 hOσ2 hT hqv1 => ?_)
  have hqv1 : 2 ≤ (σ2.1 111 8).toInt ∧ (σ2.1 111 8).toInt ≤ 1600 := hqv1
  have hu : 2 ≤ (σ2.1 111 8).toInt ∧ (σ2.1 111 8).toInt ≤ 1600 := hqv1
  refine ok_gC rfl ?_
  refine ok_zbT (Q := fun V σ => True) hT (s_X1_spread_28 hN (hR.tr hT) (by first | exact hn | (rw [hT.2 28 (by decide)]; exact hn))) (by decide) (fun v3 σ4 hOσ4 hT hqv3 => ?_)
  have hu : 2 ≤ (σ4.1 111 8).toInt ∧ (σ4.1 111 8).toInt ≤ 1600 := by rw [hOσ4.2 111 (by decide)] <;> exact hu
  refine ok_lp (fun t : Int32 × zS => Tr [111, 112, 113, 114, 115, 116, 117, 118, 119] σ0 (t.2) ∧ (0 ≤ (t.1).toInt) ∧ (2 ≤ ((t.2).1 111 8).toInt ∧ ((t.2).1 111 8).toInt ≤ 1600)) (fun t : Int32 × zS => ((10 : Int32).toInt - (t.1).toInt).toNat) (fun again5 t hI ih11_5 => ?_) N _ (show Tr [111, 112, 113, 114, 115, 116, 117, 118, 119] σ0 σ4 ∧ (0 ≤ (0 : Int32).toInt) ∧ (2 ≤ (σ4.1 111 8).toInt ∧ (σ4.1 111 8).toInt ≤ 1600) from ⟨hT, (by first | omega | decide | (simp only [Int32.le_iff_toInt_le, Int32.lt_iff_toInt_lt, ti_add, ti_sub, ti_mul, Int32.reduceToInt] at *; omega)), hu⟩) (show ((10 : Int32).toInt - (0 : Int32).toInt).toNat < N from (by first | omega | decide | (simp only [Int32.le_iff_toInt_le, Int32.lt_iff_toInt_lt, ti_add, ti_sub, ti_mul, Int32.reduceToInt] at *; omega)))
  obtain ⟨x2_5, σ5⟩ := t
  have hI : Tr [111, 112, 113, 114, 115, 116, 117, 118, 119] σ0 σ5 ∧ (0 ≤ x2_5.toInt) ∧ (2 ≤ (σ5.1 111 8).toInt ∧ (σ5.1 111 8).toInt ≤ 1600) := hI
  obtain ⟨hT, hI5, hu⟩ := hI
  rw [F_X1_tallyOfAll_11.eq_1]
  refine ok_if (fun hc6 => ?_) (fun hc6 => ?_)
  · refine ok_gI rfl ?_
    exact ok_some ⟨hT, (show 2 ≤ (σ5.1 111 8).toInt ∧ (σ5.1 111 8).toInt ≤ 1600 from by exact hu)⟩
  · refine ok_gC rfl ?_
    refine ok_zbT (Q := fun V σ => True) hT (s_X10_firstLike_28 hN (hR.tr hT) (by first | omega | decide | (simp only [Int32.le_iff_toInt_le, Int32.lt_iff_toInt_lt, ti_add, ti_sub, ti_mul, Int32.reduceToInt] at *; omega))) (fun _ h9 => absurd h9 List.not_mem_nil) (fun v8 σ9 hOσ9 hT hqv8 => ?_)
    have hu : 2 ≤ (σ9.1 111 8).toInt ∧ (σ9.1 111 8).toInt ≤ 1600 := by rw [hOσ9.2 111 (by decide)] <;> exact hu
    refine ok_if (fun hc10 => ?_) (fun hc10 => ?_)
    · refine ok_gR (v := 33) hT rfl (hR 28 7 rfl) ?_
      obtain ⟨q13, eq13, kq13⟩ := arrF hR (k := 33) (i := x2_5) rfl (by first | omega | decide | (simp only [Int32.le_iff_toInt_le, Int32.lt_iff_toInt_lt, ti_add, ti_sub, ti_mul, Int32.reduceToInt] at *; omega)) (by first | omega | decide | (simp only [Int32.le_iff_toInt_le, Int32.lt_iff_toInt_lt, ti_add, ti_sub, ti_mul, Int32.reduceToInt] at *; omega))
      refine ok_aR (v := q13) hT rfl (by first | omega | decide | (simp only [Int32.le_iff_toInt_le, Int32.lt_iff_toInt_lt, ti_add, ti_sub, ti_mul, Int32.reduceToInt] at *; omega)) (by first | omega | decide | (simp only [Int32.le_iff_toInt_le, Int32.lt_iff_toInt_lt, ti_add, ti_sub, ti_mul, Int32.reduceToInt] at *; omega)) eq13 ?_
      refine ok_gI0 hT rfl (by decide) ?_
      refine ok_gC rfl ?_
      refine ok_zbT (Q := fun V σ => 2 ≤ (σ.1 111 8).toInt ∧ (σ.1 111 8).toInt ≤ 1600) hT (s_X1_grow hN (hR.tr hT) kq13 (by first | omega | decide | (simp only [Int32.le_iff_toInt_le, Int32.lt_iff_toInt_lt, ti_add, ti_sub, ti_mul, Int32.reduceToInt] at *; omega)) (by first | exact hn | (rw [hT.2 28 (by decide)]; exact hn))) (by decide) (fun v15 σ16 hOσ16 hT hqv15 => ?_)
      have hqv15 : 2 ≤ (σ16.1 111 8).toInt ∧ (σ16.1 111 8).toInt ≤ 1600 := hqv15
      have hu : 2 ≤ (σ16.1 111 8).toInt ∧ (σ16.1 111 8).toInt ≤ 1600 := hqv15
      exact ih11_5 (x2_5 + 1, σ16) (show Tr [111, 112, 113, 114, 115, 116, 117, 118, 119] σ0 σ16 ∧ (0 ≤ (x2_5 + 1).toInt) ∧ (2 ≤ (σ16.1 111 8).toInt ∧ (σ16.1 111 8).toInt ≤ 1600) from ⟨hT, (by first | omega | decide | (simp only [Int32.le_iff_toInt_le, Int32.lt_iff_toInt_lt, ti_add, ti_sub, ti_mul, Int32.reduceToInt] at *; omega)), hu⟩) (show ((10 : Int32).toInt - (x2_5 + 1).toInt).toNat < ((10 : Int32).toInt - x2_5.toInt).toNat from (by first | omega | decide | (simp only [Int32.le_iff_toInt_le, Int32.lt_iff_toInt_lt, ti_add, ti_sub, ti_mul, Int32.reduceToInt] at *; omega)))
    · exact ih11_5 (x2_5 + 1, σ9) (show Tr [111, 112, 113, 114, 115, 116, 117, 118, 119] σ0 σ9 ∧ (0 ≤ (x2_5 + 1).toInt) ∧ (2 ≤ (σ9.1 111 8).toInt ∧ (σ9.1 111 8).toInt ≤ 1600) from ⟨hT, (by first | omega | decide | (simp only [Int32.le_iff_toInt_le, Int32.lt_iff_toInt_lt, ti_add, ti_sub, ti_mul, Int32.reduceToInt] at *; omega)), hu⟩) (show ((10 : Int32).toInt - (x2_5 + 1).toInt).toNat < ((10 : Int32).toInt - x2_5.toInt).toNat from (by first | omega | decide | (simp only [Int32.le_iff_toInt_le, Int32.lt_iff_toInt_lt, ti_add, ti_sub, ti_mul, Int32.reduceToInt] at *; omega)))
